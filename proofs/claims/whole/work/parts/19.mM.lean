section MM
variable {p : Program} {l : Launch} {e : Env} {s : State} {m : MethodId} {args : Array Value} {below : List Frame} {meth : Method} {c : Code} {D : va_G} {ad : Nat → Nat} {n : Nat} {cI cJ cZ : ClassId}
noncomputable def b_X7_shadeOf_30 (x1 : Int32) (x2 : Int32) (x3 : Int32) (x4 : Int32) (x5 : Int32) (k : St → Option (Int32 × St)) (rec : Int32 → Int32 → St → Option (Int32 × St)) (x6 : Int32) (x7 : Int32) (S : St) : Option (Int32 × St) :=
if x7 < (x5 * (gI S 42 0)) then (
k S)
else
if x7 < ((x5 + (1 : Int32)) * (gI S 42 0)) then (
chk x7 16 <|
chk x7 12 <|
chk x1 16 <|
bnd (m_X7_steepOf x2 x3 S) fun r4 S3 =>
if (x6 * r4) < (((gI S 2 (ix x7)) + (gI S 3 (ix x7))) - (gI S 2 (ix x1))) then (
some (x7, S3))
else
nm ((x7 + x4)) fun y5 =>
rec (x6 + 1) y5 S3)
else
k S
noncomputable def m_X7_shadeOf (x1 : Int32) (x2 : Int32) (x3 : Int32) (S : St) : Option (Int32 × St) :=
if x3 < (6 : Int32) then (
dchk (gI S 42 0) <|
nm ((x1 / (gI S 42 0))) fun y7 =>
nm ((x1 + (-1 : Int32))) fun y8 =>
it2 (b_X7_shadeOf_30 x1 x2 x3 (-1 : Int32) y7 (fun S9 =>
some ((-1 : Int32), S9))) 5000 (1 : Int32) y8 S)
else
dchk (gI S 42 0) <|
nm ((x1 / (gI S 42 0))) fun y1 =>
nm ((x1 + (1 : Int32))) fun y2 =>
it2 (b_X7_shadeOf_30 x1 x2 x3 (1 : Int32) y1 (fun S6 =>
some ((-1 : Int32), S6))) 5000 (1 : Int32) y2 S
set_option maxRecDepth 20000 in
theorem u_X7_shadeOf_30 (C : Cx p s m args meth c cX7_shadeOf 8 RX7 D (tyX cI cJ cZ) ad n (wM ad cI cJ cZ)) (hr : meth.sig.returnType = (some .int)) (x1 : Int32) (x2 : Int32) (x3 : Int32) (x4 : Int32) (x5 : Int32) (k : St → Option (Int32 × St)) (hk : ∀ (S : St), GM p l e ({ frames := 1, cells := 0, slots := 0, locals := 21 } : Room) s m args below meth c D ad n (wM ad cI cJ cZ) 8 (QI D (wM ad cI cJ cZ) ad n args s below) (k S) S 105 [] []) (rec : Int32 → Int32 → St → Option (Int32 × St)) (hrec : ∀ (x6 : Int32) (x7 : Int32) (S : St), GM p l e ({ frames := 1, cells := 0, slots := 0, locals := 21 } : Room) s m args below meth c D ad n (wM ad cI cJ cZ) 8 (QI D (wM ad cI cJ cZ) ad n args s below) (rec x6 x7 S) S 30 [(0, .ref (ad 0)), (1, .int x1), (2, .int x2), (3, .int x3), (4, .int x4), (5, .int x5), (6, .int x6), (7, .int x7)] []) (x6 : Int32) (x7 : Int32) (S : St) : GM p l e ({ frames := 1, cells := 0, slots := 0, locals := 21 } : Room) s m args below meth c D ad n (wM ad cI cJ cZ) 8 (QI D (wM ad cI cJ cZ) ad n args s below) (b_X7_shadeOf_30 x1 x2 x3 x4 x5 k rec x6 x7 S) S 30 [(0, .ref (ad 0)), (1, .int x1), (2, .int x2), (3, .int x3), (4, .int x4), (5, .int x5), (6, .int x6), (7, .int x7)] [] := by
  unfold b_X7_shadeOf_30
  refine g_iload (pc := 30) C dX7_shadeOf_30 7 rfl ?_
  refine g_iload (pc := 32) C dX7_shadeOf_32 5 rfl ?_
  refine g_aload_n (pc := 34) C dX7_shadeOf_34 (i := 0) rfl 0 rfl ?_
  refine gt_X7_wide (pc := 35) C q876 dX7_shadeOf_35 ?_
  refine g_imul (pc := 38) C dX7_shadeOf_38 ?_
  refine g_icmp_lt (pc := 39) (tgt := 105) C dX7_shadeOf_39 (by decide) ?_ ?_
  · refine g_sub [] rfl (hk _)
  · refine g_iload (pc := 42) C dX7_shadeOf_42 7 rfl ?_
    refine g_iload (pc := 44) C dX7_shadeOf_44 5 rfl ?_
    refine g_iconst (pc := 46) (v := 1) C dX7_shadeOf_46 (by decide) ?_
    refine g_iadd (pc := 47) C dX7_shadeOf_47 ?_
    refine g_aload_n (pc := 48) C dX7_shadeOf_48 (i := 0) rfl 0 rfl ?_
    refine gt_X7_wide (pc := 49) C q876 dX7_shadeOf_49 ?_
    refine g_imul (pc := 52) C dX7_shadeOf_52 ?_
    refine g_icmp_ge (pc := 53) (tgt := 105) C dX7_shadeOf_53 (by decide) ?_ ?_
    · refine g_sub [] rfl (hk _)
    · refine g_aload_n (pc := 56) C dX7_shadeOf_56 (i := 0) rfl 0 rfl ?_
      refine gt_X7_heights (pc := 57) C q878 dX7_shadeOf_57 ?_
      refine g_iload (pc := 60) C dX7_shadeOf_60 7 rfl ?_
      refine al_X7_heights (pc := 62) C dX7_shadeOf_62 ?_
      refine g_aload_n (pc := 63) C dX7_shadeOf_63 (i := 0) rfl 0 rfl ?_
      refine gt_X7_stands (pc := 64) C q879 dX7_shadeOf_64 ?_
      refine g_iload (pc := 67) C dX7_shadeOf_67 7 rfl ?_
      refine al_X7_stands (pc := 69) C dX7_shadeOf_69 ?_
      refine g_iadd (pc := 70) C dX7_shadeOf_70 ?_
      refine g_aload_n (pc := 71) C dX7_shadeOf_71 (i := 0) rfl 0 rfl ?_
      refine gt_X7_heights (pc := 72) C q878 dX7_shadeOf_72 ?_
      refine g_iload_n (pc := 75) C dX7_shadeOf_75 (i := 1) rfl 1 rfl ?_
      refine al_X7_heights (pc := 76) C dX7_shadeOf_76 ?_
      refine g_isub (pc := 77) C dX7_shadeOf_77 ?_
      refine g_iload (pc := 78) C dX7_shadeOf_78 6 rfl ?_
      refine g_iload_n (pc := 80) C dX7_shadeOf_80 (i := 2) rfl 2 rfl ?_
      refine g_iload_n (pc := 81) C dX7_shadeOf_81 (i := 3) rfl 3 rfl ?_
      refine g_callSi (pc := 82) (As := [.int _, .int _]) C q1024 mw_X7_steepOf (fun _ hz => c_X7_steepOf C.2.2.2.2.2.2.2.1 hz) ⟨Nat.le_of_ble_eq_true rfl, Nat.le_of_ble_eq_true rfl⟩ rfl rfl rfl (Nat.le_of_ble_eq_true rfl) dX7_shadeOf_82 fun r4 S3 => ?_
      refine g_imul (pc := 85) C dX7_shadeOf_85 ?_
      refine g_icmp_le (pc := 86) (tgt := 92) C dX7_shadeOf_86 (by decide) ?_ ?_
      · refine g_iinc (pc := 92) (v := (x6 + 1)) (lv2 := [(6, .int (x6 + 1)), (0, .ref (ad 0)), (1, .int x1), (2, .int x2), (3, .int x3), (4, .int x4), (5, .int x5), (7, .int x7)]) C dX7_shadeOf_92 6 rfl rfl (by decide) rfl ?_
        refine g_iload (pc := 95) C dX7_shadeOf_95 7 rfl ?_
        refine g_iload (pc := 97) C dX7_shadeOf_97 5 rfl ?_
        refine g_iadd (pc := 99) C dX7_shadeOf_99 ?_
        refine g_nmi fun y5 => ?_
        refine g_istore (pc := 100) (i := 7) (j := 0) (lv2 := [(7, .int y5), (6, .int (x6 + 1)), (0, .ref (ad 0)), (1, .int x1), (2, .int x2), (3, .int x3), (4, .int x4), (5, .int x5)]) C dX7_shadeOf_100 (by decide) rfl ?_
        refine g_goto (pc := 102) (tgt := 30) C dX7_shadeOf_102 (by decide) ?_
        refine g_sub [2, 3, 4, 5, 6, 7, 1, 0] rfl (hrec _ _ _)
      · refine g_iload (pc := 89) C dX7_shadeOf_89 7 rfl ?_
        exact g_iret (pc := 91) C hr dX7_shadeOf_91
set_option maxRecDepth 20000 in
theorem c_X7_shadeOf {l : Launch} {D : va_G} {ad : Nat → Nat} {cI cJ cZ : ClassId} {n : Nat} (hD : ∀ sz S, va_D (Adr ad n sz) (wM ad cI cJ cZ S)) {x1 : Int32} {x2 : Int32} {x3 : Int32} {S : St} {z : Int32 × St} (hf : m_X7_shadeOf x1 x2 x3 S = some z) : CtI l yX7_shadeOf cX7_shadeOf 8 (some .int) ({ frames := 1, cells := 0, slots := 0, locals := 21 } : Room) D (wM ad cI cJ cZ) (tyX cI cJ cZ) ad n [.ref (ad 0), .int x1, .int x2, .int x3] S z := by
  refine CtI.of hf (by decide +kernel) (Nat.le_of_ble_eq_true rfl) hD (fun p e s m args below meth c C hr => ?_)
  refine g_sub [0, 1, 2, 3] (lv2 := [(0, .ref (ad 0)), (1, .int x1), (2, .int x2), (3, .int x3)]) rfl ?_
  unfold m_X7_shadeOf
  refine g_iload_n (pc := 0) C dX7_shadeOf_0 (i := 3) rfl 3 rfl ?_
  refine g_bipush (pc := 1) (v := 6) C dX7_shadeOf_1 (by decide) ?_
  refine g_icmp_ge (pc := 3) (tgt := 10) C dX7_shadeOf_3 (by decide) ?_ ?_
  · refine g_iconst (pc := 10) (v := 1) C dX7_shadeOf_10 (by decide) ?_
    refine g_istore (pc := 11) (i := 4) (j := 0) (lv2 := [(4, .int (1 : Int32)), (0, .ref (ad 0)), (1, .int x1), (2, .int x2), (3, .int x3)]) C dX7_shadeOf_11 (by decide) rfl ?_
    refine g_iload_n (pc := 13) C dX7_shadeOf_13 (i := 1) rfl 2 rfl ?_
    refine g_aload_n (pc := 14) C dX7_shadeOf_14 (i := 0) rfl 1 rfl ?_
    refine gt_X7_wide (pc := 15) C q876 dX7_shadeOf_15 ?_
    refine g_idiv (pc := 18) C dX7_shadeOf_18 ?_
    refine g_nmi fun y1 => ?_
    refine g_istore (pc := 19) (i := 5) (j := 0) (lv2 := [(5, .int y1), (4, .int (1 : Int32)), (0, .ref (ad 0)), (1, .int x1), (2, .int x2), (3, .int x3)]) C dX7_shadeOf_19 (by decide) rfl ?_
    refine g_iconst (pc := 21) (v := 1) C dX7_shadeOf_21 (by decide) ?_
    refine g_istore (pc := 22) (i := 6) (j := 0) (lv2 := [(6, .int (1 : Int32)), (5, .int y1), (4, .int (1 : Int32)), (0, .ref (ad 0)), (1, .int x1), (2, .int x2), (3, .int x3)]) C dX7_shadeOf_22 (by decide) rfl ?_
    refine g_iload_n (pc := 24) C dX7_shadeOf_24 (i := 1) rfl 4 rfl ?_
    refine g_iload (pc := 25) C dX7_shadeOf_25 2 rfl ?_
    refine g_iadd (pc := 27) C dX7_shadeOf_27 ?_
    refine g_nmi fun y2 => ?_
    refine g_istore (pc := 28) (i := 7) (j := 0) (lv2 := [(7, .int y2), (6, .int (1 : Int32)), (5, .int y1), (4, .int (1 : Int32)), (0, .ref (ad 0)), (1, .int x1), (2, .int x2), (3, .int x3)]) C dX7_shadeOf_28 (by decide) rfl ?_
    refine g_sub [4, 5, 6, 7, 3, 2, 1, 0] (lv2 := [(0, .ref (ad 0)), (1, .int x1), (2, .int x2), (3, .int x3), (4, .int (1 : Int32)), (5, .int y1), (6, .int (1 : Int32)), (7, .int y2)]) rfl ?_
    refine g_it2 (pc := 30) (u_X7_shadeOf_30 C hr _ _ _ _ _ _ fun S6 => ?_) _ _ _ _
    refine g_iconst (pc := 105) (v := -1) C dX7_shadeOf_105 (by decide) ?_
    exact g_iret (pc := 106) C hr dX7_shadeOf_106
  · refine g_iconst (pc := 6) (v := -1) C dX7_shadeOf_6 (by decide) ?_
    refine g_goto (pc := 7) (tgt := 11) C dX7_shadeOf_7 (by decide) ?_
    refine g_istore (pc := 11) (i := 4) (j := 0) (lv2 := [(4, .int (-1 : Int32)), (0, .ref (ad 0)), (1, .int x1), (2, .int x2), (3, .int x3)]) C dX7_shadeOf_11 (by decide) rfl ?_
    refine g_iload_n (pc := 13) C dX7_shadeOf_13 (i := 1) rfl 2 rfl ?_
    refine g_aload_n (pc := 14) C dX7_shadeOf_14 (i := 0) rfl 1 rfl ?_
    refine gt_X7_wide (pc := 15) C q876 dX7_shadeOf_15 ?_
    refine g_idiv (pc := 18) C dX7_shadeOf_18 ?_
    refine g_nmi fun y7 => ?_
    refine g_istore (pc := 19) (i := 5) (j := 0) (lv2 := [(5, .int y7), (4, .int (-1 : Int32)), (0, .ref (ad 0)), (1, .int x1), (2, .int x2), (3, .int x3)]) C dX7_shadeOf_19 (by decide) rfl ?_
    refine g_iconst (pc := 21) (v := 1) C dX7_shadeOf_21 (by decide) ?_
    refine g_istore (pc := 22) (i := 6) (j := 0) (lv2 := [(6, .int (1 : Int32)), (5, .int y7), (4, .int (-1 : Int32)), (0, .ref (ad 0)), (1, .int x1), (2, .int x2), (3, .int x3)]) C dX7_shadeOf_22 (by decide) rfl ?_
    refine g_iload_n (pc := 24) C dX7_shadeOf_24 (i := 1) rfl 4 rfl ?_
    refine g_iload (pc := 25) C dX7_shadeOf_25 2 rfl ?_
    refine g_iadd (pc := 27) C dX7_shadeOf_27 ?_
    refine g_nmi fun y8 => ?_
    refine g_istore (pc := 28) (i := 7) (j := 0) (lv2 := [(7, .int y8), (6, .int (1 : Int32)), (5, .int y7), (4, .int (-1 : Int32)), (0, .ref (ad 0)), (1, .int x1), (2, .int x2), (3, .int x3)]) C dX7_shadeOf_28 (by decide) rfl ?_
    refine g_sub [4, 5, 6, 7, 3, 2, 1, 0] (lv2 := [(0, .ref (ad 0)), (1, .int x1), (2, .int x2), (3, .int x3), (4, .int (-1 : Int32)), (5, .int y7), (6, .int (1 : Int32)), (7, .int y8)]) rfl ?_
    refine g_it2 (pc := 30) (u_X7_shadeOf_30 C hr _ _ _ _ _ _ fun S9 => ?_) _ _ _ _
    refine g_iconst (pc := 105) (v := -1) C dX7_shadeOf_105 (by decide) ?_
    exact g_iret (pc := 106) C hr dX7_shadeOf_106
noncomputable def m_X7_shade (x1 : Int32) (x2 : Int32) (x3 : Int32) (S : St) : Option (Int32 × St) :=
bnd (m_X7_isCell x1 S) fun r2 S1 =>
if r2 = 0 then (
some ((-2 : Int32), S1))
else
bnd (m_X7_isFour x2 S1) fun r4 S3 =>
if r4 = 0 then (
some ((-2 : Int32), S3))
else
bnd (m_X7_isTwelve x3 S3) fun r6 S5 =>
if r6 = 0 then (
some ((-2 : Int32), S5))
else
bnd (m_X7_shadeOf x1 x2 x3 S5) fun r8 S7 =>
some (r8, S7)
set_option maxRecDepth 20000 in
theorem c_X7_shade {l : Launch} {D : va_G} {ad : Nat → Nat} {cI cJ cZ : ClassId} {n : Nat} (hD : ∀ sz S, va_D (Adr ad n sz) (wM ad cI cJ cZ S)) {x1 : Int32} {x2 : Int32} {x3 : Int32} {S : St} {z : Int32 × St} (hf : m_X7_shade x1 x2 x3 S = some z) : CtI l yX7_shade cX7_shade 4 (some .int) ({ frames := 4, cells := 0, slots := 0, locals := 91 } : Room) D (wM ad cI cJ cZ) (tyX cI cJ cZ) ad n [.ref (ad 0), .int x1, .int x2, .int x3] S z := by
  refine CtI.of hf (by decide +kernel) (Nat.le_of_ble_eq_true rfl) hD (fun p e s m args below meth c C hr => ?_)
  refine g_sub [0, 1, 2, 3] (lv2 := [(0, .ref (ad 0)), (1, .int x1), (2, .int x2), (3, .int x3)]) rfl ?_
  unfold m_X7_shade
  refine g_aload_n (pc := 0) C dX7_shade_0 (i := 0) rfl 0 rfl ?_
  refine g_iload_n (pc := 1) C dX7_shade_1 (i := 1) rfl 1 rfl ?_
  refine g_callVi (pc := 2) (As := [.int _]) C q983 mw_X7_isCell (fun _ hz => c_X7_isCell C.2.2.2.2.2.2.2.1 hz) ⟨Nat.le_of_ble_eq_true rfl, Nat.le_of_ble_eq_true rfl⟩ rfl rfl 0 rfl rfl rfl (Nat.le_of_ble_eq_true rfl) dX7_shade_2 fun r2 S1 => ?_
  refine g_if_eq (pc := 5) (tgt := 32) C dX7_shade_5 (by decide) ?_ ?_
  · refine g_bipush (pc := 32) (v := -2) C dX7_shade_32 (by decide) ?_
    exact g_iret (pc := 34) C hr dX7_shade_34
  · refine g_iload_n (pc := 8) C dX7_shade_8 (i := 2) rfl 2 rfl ?_
    refine g_callSi (pc := 9) (As := [.int _]) C q1002 mw_X7_isFour (fun _ hz => c_X7_isFour C.2.2.2.2.2.2.2.1 hz) ⟨Nat.le_of_ble_eq_true rfl, Nat.le_of_ble_eq_true rfl⟩ rfl rfl rfl (Nat.le_of_ble_eq_true rfl) dX7_shade_9 fun r4 S3 => ?_
    refine g_if_eq (pc := 12) (tgt := 32) C dX7_shade_12 (by decide) ?_ ?_
    · refine g_bipush (pc := 32) (v := -2) C dX7_shade_32 (by decide) ?_
      exact g_iret (pc := 34) C hr dX7_shade_34
    · refine g_iload_n (pc := 15) C dX7_shade_15 (i := 3) rfl 3 rfl ?_
      refine g_callSi (pc := 16) (As := [.int _]) C q995 mw_X7_isTwelve (fun _ hz => c_X7_isTwelve C.2.2.2.2.2.2.2.1 hz) ⟨Nat.le_of_ble_eq_true rfl, Nat.le_of_ble_eq_true rfl⟩ rfl rfl rfl (Nat.le_of_ble_eq_true rfl) dX7_shade_16 fun r6 S5 => ?_
      refine g_if_eq (pc := 19) (tgt := 32) C dX7_shade_19 (by decide) ?_ ?_
      · refine g_bipush (pc := 32) (v := -2) C dX7_shade_32 (by decide) ?_
        exact g_iret (pc := 34) C hr dX7_shade_34
      · refine g_aload_n (pc := 22) C dX7_shade_22 (i := 0) rfl 0 rfl ?_
        refine g_iload_n (pc := 23) C dX7_shade_23 (i := 1) rfl 1 rfl ?_
        refine g_iload_n (pc := 24) C dX7_shade_24 (i := 2) rfl 2 rfl ?_
        refine g_iload_n (pc := 25) C dX7_shade_25 (i := 3) rfl 3 rfl ?_
        refine g_callVi (pc := 26) (As := [.int _, .int _, .int _]) C q1031 mw_X7_shadeOf (fun _ hz => c_X7_shadeOf C.2.2.2.2.2.2.2.1 hz) ⟨Nat.le_of_ble_eq_true rfl, Nat.le_of_ble_eq_true rfl⟩ rfl rfl 0 rfl rfl rfl (Nat.le_of_ble_eq_true rfl) dX7_shade_26 fun r8 S7 => ?_
        refine g_goto (pc := 29) (tgt := 34) C dX7_shade_29 (by decide) ?_
        exact g_iret (pc := 34) C hr dX7_shade_34
noncomputable def b_X7_lightOf_5 (x1 : Int32) (x2 : Int32) (k : Int32 → St → Option (Int32 × St)) (rec : Int32 → Int32 → St → Option (Int32 × St)) (x3 : Int32) (x4 : Int32) (S : St) : Option (Int32 × St) :=
if x4 < (12 : Int32) then (
bnd (m_X7_shadeOf x1 x2 x4 S) fun r2 S1 =>
if r2 = (-1 : Int32) then (
nm ((x3 ||| ((1 : Int32) <<< (x4 &&& 31)))) fun y4 =>
rec y4 (x4 + 1) S1)
else
nm ((x3 ||| (0 : Int32))) fun y3 =>
rec y3 (x4 + 1) S1)
else
k x3 S
noncomputable def m_X7_lightOf (x1 : Int32) (x2 : Int32) (S : St) : Option (Int32 × St) :=
it2 (b_X7_lightOf_5 x1 x2 (fun x3_S5 S5 =>
some (x3_S5, S5))) 5000 (0 : Int32) (0 : Int32) S
set_option maxRecDepth 20000 in
theorem u_X7_lightOf_5 (C : Cx p s m args meth c cX7_lightOf 5 RX7 D (tyX cI cJ cZ) ad n (wM ad cI cJ cZ)) (hr : meth.sig.returnType = (some .int)) (x1 : Int32) (x2 : Int32) (k : Int32 → St → Option (Int32 × St)) (hk : ∀ (x3 : Int32) (S : St), GM p l e ({ frames := 2, cells := 0, slots := 0, locals := 48 } : Room) s m args below meth c D ad n (wM ad cI cJ cZ) 5 (QI D (wM ad cI cJ cZ) ad n args s below) (k x3 S) S 41 [(3, .int x3)] []) (rec : Int32 → Int32 → St → Option (Int32 × St)) (hrec : ∀ (x3 : Int32) (x4 : Int32) (S : St), GM p l e ({ frames := 2, cells := 0, slots := 0, locals := 48 } : Room) s m args below meth c D ad n (wM ad cI cJ cZ) 5 (QI D (wM ad cI cJ cZ) ad n args s below) (rec x3 x4 S) S 5 [(0, .ref (ad 0)), (1, .int x1), (2, .int x2), (3, .int x3), (4, .int x4)] []) (x3 : Int32) (x4 : Int32) (S : St) : GM p l e ({ frames := 2, cells := 0, slots := 0, locals := 48 } : Room) s m args below meth c D ad n (wM ad cI cJ cZ) 5 (QI D (wM ad cI cJ cZ) ad n args s below) (b_X7_lightOf_5 x1 x2 k rec x3 x4 S) S 5 [(0, .ref (ad 0)), (1, .int x1), (2, .int x2), (3, .int x3), (4, .int x4)] [] := by
  unfold b_X7_lightOf_5
  refine g_iload (pc := 5) C dX7_lightOf_5 4 rfl ?_
  refine g_bipush (pc := 7) (v := 12) C dX7_lightOf_7 (by decide) ?_
  refine g_icmp_ge (pc := 9) (tgt := 41) C dX7_lightOf_9 (by decide) ?_ ?_
  · refine g_sub [3] rfl (hk _ _)
  · refine g_iload_n (pc := 12) C dX7_lightOf_12 (i := 3) rfl 3 rfl ?_
    refine g_aload_n (pc := 13) C dX7_lightOf_13 (i := 0) rfl 0 rfl ?_
    refine g_iload_n (pc := 14) C dX7_lightOf_14 (i := 1) rfl 1 rfl ?_
    refine g_iload_n (pc := 15) C dX7_lightOf_15 (i := 2) rfl 2 rfl ?_
    refine g_iload (pc := 16) C dX7_lightOf_16 4 rfl ?_
    refine g_callVi (pc := 18) (As := [.int _, .int _, .int _]) C q1031 mw_X7_shadeOf (fun _ hz => c_X7_shadeOf C.2.2.2.2.2.2.2.1 hz) ⟨Nat.le_of_ble_eq_true rfl, Nat.le_of_ble_eq_true rfl⟩ rfl rfl 0 rfl rfl rfl (Nat.le_of_ble_eq_true rfl) dX7_lightOf_18 fun r2 S1 => ?_
    refine g_iconst (pc := 21) (v := -1) C dX7_lightOf_21 (by decide) ?_
    refine g_icmp_ne (pc := 22) (tgt := 32) C dX7_lightOf_22 (by decide) ?_ ?_
    · refine g_iconst (pc := 32) (v := 0) C dX7_lightOf_32 (by decide) ?_
      refine g_ior (pc := 33) C dX7_lightOf_33 ?_
      refine g_nmi fun y3 => ?_
      refine g_istore_n (pc := 34) (i := 3) (lv2 := [(3, .int y3), (0, .ref (ad 0)), (1, .int x1), (2, .int x2), (4, .int x4)]) C dX7_lightOf_34 rfl (by decide) rfl ?_
      refine g_iinc (pc := 35) (v := (x4 + 1)) (lv2 := [(4, .int (x4 + 1)), (3, .int y3), (0, .ref (ad 0)), (1, .int x1), (2, .int x2)]) C dX7_lightOf_35 4 rfl rfl (by decide) rfl ?_
      refine g_goto (pc := 38) (tgt := 5) C dX7_lightOf_38 (by decide) ?_
      refine g_sub [2, 3, 4, 1, 0] rfl (hrec _ _ _)
    · refine g_iconst (pc := 25) (v := 1) C dX7_lightOf_25 (by decide) ?_
      refine g_iload (pc := 26) C dX7_lightOf_26 4 rfl ?_
      refine g_ishl (pc := 28) C dX7_lightOf_28 ?_
      refine g_goto (pc := 29) (tgt := 33) C dX7_lightOf_29 (by decide) ?_
      refine g_ior (pc := 33) C dX7_lightOf_33 ?_
      refine g_nmi fun y4 => ?_
      refine g_istore_n (pc := 34) (i := 3) (lv2 := [(3, .int y4), (0, .ref (ad 0)), (1, .int x1), (2, .int x2), (4, .int x4)]) C dX7_lightOf_34 rfl (by decide) rfl ?_
      refine g_iinc (pc := 35) (v := (x4 + 1)) (lv2 := [(4, .int (x4 + 1)), (3, .int y4), (0, .ref (ad 0)), (1, .int x1), (2, .int x2)]) C dX7_lightOf_35 4 rfl rfl (by decide) rfl ?_
      refine g_goto (pc := 38) (tgt := 5) C dX7_lightOf_38 (by decide) ?_
      refine g_sub [2, 3, 4, 1, 0] rfl (hrec _ _ _)
set_option maxRecDepth 20000 in
theorem c_X7_lightOf {l : Launch} {D : va_G} {ad : Nat → Nat} {cI cJ cZ : ClassId} {n : Nat} (hD : ∀ sz S, va_D (Adr ad n sz) (wM ad cI cJ cZ S)) {x1 : Int32} {x2 : Int32} {S : St} {z : Int32 × St} (hf : m_X7_lightOf x1 x2 S = some z) : CtI l yX7_lightOf cX7_lightOf 5 (some .int) ({ frames := 2, cells := 0, slots := 0, locals := 48 } : Room) D (wM ad cI cJ cZ) (tyX cI cJ cZ) ad n [.ref (ad 0), .int x1, .int x2] S z := by
  refine CtI.of hf (by decide +kernel) (Nat.le_of_ble_eq_true rfl) hD (fun p e s m args below meth c C hr => ?_)
  refine g_sub [0, 1, 2] (lv2 := [(0, .ref (ad 0)), (1, .int x1), (2, .int x2)]) rfl ?_
  unfold m_X7_lightOf
  refine g_iconst (pc := 0) (v := 0) C dX7_lightOf_0 (by decide) ?_
  refine g_istore_n (pc := 1) (i := 3) (lv2 := [(3, .int (0 : Int32)), (0, .ref (ad 0)), (1, .int x1), (2, .int x2)]) C dX7_lightOf_1 rfl (by decide) rfl ?_
  refine g_iconst (pc := 2) (v := 0) C dX7_lightOf_2 (by decide) ?_
  refine g_istore (pc := 3) (i := 4) (j := 0) (lv2 := [(4, .int (0 : Int32)), (3, .int (0 : Int32)), (0, .ref (ad 0)), (1, .int x1), (2, .int x2)]) C dX7_lightOf_3 (by decide) rfl ?_
  refine g_sub [2, 3, 4, 1, 0] (lv2 := [(0, .ref (ad 0)), (1, .int x1), (2, .int x2), (3, .int (0 : Int32)), (4, .int (0 : Int32))]) rfl ?_
  refine g_it2 (pc := 5) (u_X7_lightOf_5 C hr _ _ _ fun x3_S5 S5 => ?_) _ _ _ _
  refine g_iload_n (pc := 41) C dX7_lightOf_41 (i := 3) rfl 0 rfl ?_
  exact g_iret (pc := 42) C hr dX7_lightOf_42
noncomputable def m_X7_light (x1 : Int32) (x2 : Int32) (S : St) : Option (Int32 × St) :=
bnd (m_X7_isCell x1 S) fun r2 S1 =>
if r2 = 0 then (
some ((-2 : Int32), S1))
else
bnd (m_X7_isFour x2 S1) fun r4 S3 =>
if r4 = 0 then (
some ((-2 : Int32), S3))
else
bnd (m_X7_lightOf x1 x2 S3) fun r6 S5 =>
some (r6, S5)
set_option maxRecDepth 20000 in
theorem c_X7_light {l : Launch} {D : va_G} {ad : Nat → Nat} {cI cJ cZ : ClassId} {n : Nat} (hD : ∀ sz S, va_D (Adr ad n sz) (wM ad cI cJ cZ S)) {x1 : Int32} {x2 : Int32} {S : St} {z : Int32 × St} (hf : m_X7_light x1 x2 S = some z) : CtI l yX7_light cX7_light 3 (some .int) ({ frames := 4, cells := 0, slots := 0, locals := 91 } : Room) D (wM ad cI cJ cZ) (tyX cI cJ cZ) ad n [.ref (ad 0), .int x1, .int x2] S z := by
  refine CtI.of hf (by decide +kernel) (Nat.le_of_ble_eq_true rfl) hD (fun p e s m args below meth c C hr => ?_)
  refine g_sub [0, 1, 2] (lv2 := [(0, .ref (ad 0)), (1, .int x1), (2, .int x2)]) rfl ?_
  unfold m_X7_light
  refine g_aload_n (pc := 0) C dX7_light_0 (i := 0) rfl 0 rfl ?_
  refine g_iload_n (pc := 1) C dX7_light_1 (i := 1) rfl 1 rfl ?_
  refine g_callVi (pc := 2) (As := [.int _]) C q983 mw_X7_isCell (fun _ hz => c_X7_isCell C.2.2.2.2.2.2.2.1 hz) ⟨Nat.le_of_ble_eq_true rfl, Nat.le_of_ble_eq_true rfl⟩ rfl rfl 0 rfl rfl rfl (Nat.le_of_ble_eq_true rfl) dX7_light_2 fun r2 S1 => ?_
  refine g_if_eq (pc := 5) (tgt := 24) C dX7_light_5 (by decide) ?_ ?_
  · refine g_bipush (pc := 24) (v := -2) C dX7_light_24 (by decide) ?_
    exact g_iret (pc := 26) C hr dX7_light_26
  · refine g_iload_n (pc := 8) C dX7_light_8 (i := 2) rfl 2 rfl ?_
    refine g_callSi (pc := 9) (As := [.int _]) C q1002 mw_X7_isFour (fun _ hz => c_X7_isFour C.2.2.2.2.2.2.2.1 hz) ⟨Nat.le_of_ble_eq_true rfl, Nat.le_of_ble_eq_true rfl⟩ rfl rfl rfl (Nat.le_of_ble_eq_true rfl) dX7_light_9 fun r4 S3 => ?_
    refine g_if_eq (pc := 12) (tgt := 24) C dX7_light_12 (by decide) ?_ ?_
    · refine g_bipush (pc := 24) (v := -2) C dX7_light_24 (by decide) ?_
      exact g_iret (pc := 26) C hr dX7_light_26
    · refine g_aload_n (pc := 15) C dX7_light_15 (i := 0) rfl 0 rfl ?_
      refine g_iload_n (pc := 16) C dX7_light_16 (i := 1) rfl 1 rfl ?_
      refine g_iload_n (pc := 17) C dX7_light_17 (i := 2) rfl 2 rfl ?_
      refine g_callVi (pc := 18) (As := [.int _, .int _]) C q1039 mw_X7_lightOf (fun _ hz => c_X7_lightOf C.2.2.2.2.2.2.2.1 hz) ⟨Nat.le_of_ble_eq_true rfl, Nat.le_of_ble_eq_true rfl⟩ rfl rfl 0 rfl rfl rfl (Nat.le_of_ble_eq_true rfl) dX7_light_18 fun r6 S5 => ?_
      refine g_goto (pc := 21) (tgt := 26) C dX7_light_21 (by decide) ?_
      exact g_iret (pc := 26) C hr dX7_light_26
noncomputable def b_X7_yearOf_4 (x1 : Int32) (k : Int32 → St → Option (Int32 × St)) (rec : Int32 → Int32 → St → Option (Int32 × St)) (x2 : Int32) (x3 : Int32) (S : St) : Option (Int32 × St) :=
if x3 < (4 : Int32) then (
bnd (m_X7_lightOf x1 x3 S) fun r2 S1 =>
bnd (m_X7_ones r2 S1) fun r4 S3 =>
chk x3 4 <|
nm ((x2 + (r4 * (gI S3 5 (ix x3))))) fun y5 =>
rec y5 (x3 + 1) S3)
else
k x2 S
noncomputable def m_X7_yearOf (x1 : Int32) (S : St) : Option (Int32 × St) :=
it2 (b_X7_yearOf_4 x1 (fun x2_S6 S6 =>
some (x2_S6, S6))) 5000 (0 : Int32) (0 : Int32) S
set_option maxRecDepth 20000 in
theorem u_X7_yearOf_4 (C : Cx p s m args meth c cX7_yearOf 4 RX7 D (tyX cI cJ cZ) ad n (wM ad cI cJ cZ)) (hr : meth.sig.returnType = (some .int)) (x1 : Int32) (k : Int32 → St → Option (Int32 × St)) (hk : ∀ (x2 : Int32) (S : St), GM p l e ({ frames := 3, cells := 0, slots := 0, locals := 72 } : Room) s m args below meth c D ad n (wM ad cI cJ cZ) 4 (QI D (wM ad cI cJ cZ) ad n args s below) (k x2 S) S 34 [(2, .int x2)] []) (rec : Int32 → Int32 → St → Option (Int32 × St)) (hrec : ∀ (x2 : Int32) (x3 : Int32) (S : St), GM p l e ({ frames := 3, cells := 0, slots := 0, locals := 72 } : Room) s m args below meth c D ad n (wM ad cI cJ cZ) 4 (QI D (wM ad cI cJ cZ) ad n args s below) (rec x2 x3 S) S 4 [(0, .ref (ad 0)), (1, .int x1), (2, .int x2), (3, .int x3)] []) (x2 : Int32) (x3 : Int32) (S : St) : GM p l e ({ frames := 3, cells := 0, slots := 0, locals := 72 } : Room) s m args below meth c D ad n (wM ad cI cJ cZ) 4 (QI D (wM ad cI cJ cZ) ad n args s below) (b_X7_yearOf_4 x1 k rec x2 x3 S) S 4 [(0, .ref (ad 0)), (1, .int x1), (2, .int x2), (3, .int x3)] [] := by
  unfold b_X7_yearOf_4
  refine g_iload_n (pc := 4) C dX7_yearOf_4 (i := 3) rfl 3 rfl ?_
  refine g_iconst (pc := 5) (v := 4) C dX7_yearOf_5 (by decide) ?_
  refine g_icmp_ge (pc := 6) (tgt := 34) C dX7_yearOf_6 (by decide) ?_ ?_
  · refine g_sub [2] rfl (hk _ _)
  · refine g_iload_n (pc := 9) C dX7_yearOf_9 (i := 2) rfl 2 rfl ?_
    refine g_aload_n (pc := 10) C dX7_yearOf_10 (i := 0) rfl 0 rfl ?_
    refine g_iload_n (pc := 11) C dX7_yearOf_11 (i := 1) rfl 1 rfl ?_
    refine g_iload_n (pc := 12) C dX7_yearOf_12 (i := 3) rfl 3 rfl ?_
    refine g_callVi (pc := 13) (As := [.int _, .int _]) C q1039 mw_X7_lightOf (fun _ hz => c_X7_lightOf C.2.2.2.2.2.2.2.1 hz) ⟨Nat.le_of_ble_eq_true rfl, Nat.le_of_ble_eq_true rfl⟩ rfl rfl 0 rfl rfl rfl (Nat.le_of_ble_eq_true rfl) dX7_yearOf_13 fun r2 S1 => ?_
    refine g_callSi (pc := 16) (As := [.int _]) C q1055 mw_X7_ones (fun _ hz => c_X7_ones C.2.2.2.2.2.2.2.1 hz) ⟨Nat.le_of_ble_eq_true rfl, Nat.le_of_ble_eq_true rfl⟩ rfl rfl rfl (Nat.le_of_ble_eq_true rfl) dX7_yearOf_16 fun r4 S3 => ?_
    refine g_aload_n (pc := 19) C dX7_yearOf_19 (i := 0) rfl 0 rfl ?_
    refine gt_X7_dayOf (pc := 20) C q881 dX7_yearOf_20 ?_
    refine g_iload_n (pc := 23) C dX7_yearOf_23 (i := 3) rfl 3 rfl ?_
    refine al_X7_dayOf (pc := 24) C dX7_yearOf_24 ?_
    refine g_imul (pc := 25) C dX7_yearOf_25 ?_
    refine g_iadd (pc := 26) C dX7_yearOf_26 ?_
    refine g_nmi fun y5 => ?_
    refine g_istore_n (pc := 27) (i := 2) (lv2 := [(2, .int y5), (0, .ref (ad 0)), (1, .int x1), (3, .int x3)]) C dX7_yearOf_27 rfl (by decide) rfl ?_
    refine g_iinc (pc := 28) (v := (x3 + 1)) (lv2 := [(3, .int (x3 + 1)), (2, .int y5), (0, .ref (ad 0)), (1, .int x1)]) C dX7_yearOf_28 3 rfl rfl (by decide) rfl ?_
    refine g_goto (pc := 31) (tgt := 4) C dX7_yearOf_31 (by decide) ?_
    refine g_sub [2, 3, 1, 0] rfl (hrec _ _ _)
set_option maxRecDepth 20000 in
theorem c_X7_yearOf {l : Launch} {D : va_G} {ad : Nat → Nat} {cI cJ cZ : ClassId} {n : Nat} (hD : ∀ sz S, va_D (Adr ad n sz) (wM ad cI cJ cZ S)) {x1 : Int32} {S : St} {z : Int32 × St} (hf : m_X7_yearOf x1 S = some z) : CtI l yX7_yearOf cX7_yearOf 4 (some .int) ({ frames := 3, cells := 0, slots := 0, locals := 72 } : Room) D (wM ad cI cJ cZ) (tyX cI cJ cZ) ad n [.ref (ad 0), .int x1] S z := by
  refine CtI.of hf (by decide +kernel) (Nat.le_of_ble_eq_true rfl) hD (fun p e s m args below meth c C hr => ?_)
  refine g_sub [0, 1] (lv2 := [(0, .ref (ad 0)), (1, .int x1)]) rfl ?_
  unfold m_X7_yearOf
  refine g_iconst (pc := 0) (v := 0) C dX7_yearOf_0 (by decide) ?_
  refine g_istore_n (pc := 1) (i := 2) (lv2 := [(2, .int (0 : Int32)), (0, .ref (ad 0)), (1, .int x1)]) C dX7_yearOf_1 rfl (by decide) rfl ?_
  refine g_iconst (pc := 2) (v := 0) C dX7_yearOf_2 (by decide) ?_
  refine g_istore_n (pc := 3) (i := 3) (lv2 := [(3, .int (0 : Int32)), (2, .int (0 : Int32)), (0, .ref (ad 0)), (1, .int x1)]) C dX7_yearOf_3 rfl (by decide) rfl ?_
  refine g_sub [2, 3, 1, 0] (lv2 := [(0, .ref (ad 0)), (1, .int x1), (2, .int (0 : Int32)), (3, .int (0 : Int32))]) rfl ?_
  refine g_it2 (pc := 4) (u_X7_yearOf_4 C hr _ _ fun x2_S6 S6 => ?_) _ _ _ _
  refine g_iload_n (pc := 34) C dX7_yearOf_34 (i := 2) rfl 0 rfl ?_
  exact g_iret (pc := 35) C hr dX7_yearOf_35
noncomputable def m_X7_hoursOf (x1 : Int32) (x2 : Int32) (S : St) : Option (Int32 × St) :=
if x2 = (-1 : Int32) then (
bnd (m_X7_yearOf x1 S) fun r6 S5 =>
some (r6, S5))
else
bnd (m_X7_lightOf x1 x2 S) fun r2 S1 =>
bnd (m_X7_ones r2 S1) fun r4 S3 =>
some (r4, S3)
set_option maxRecDepth 20000 in
theorem c_X7_hoursOf {l : Launch} {D : va_G} {ad : Nat → Nat} {cI cJ cZ : ClassId} {n : Nat} (hD : ∀ sz S, va_D (Adr ad n sz) (wM ad cI cJ cZ S)) {x1 : Int32} {x2 : Int32} {S : St} {z : Int32 × St} (hf : m_X7_hoursOf x1 x2 S = some z) : CtI l yX7_hoursOf cX7_hoursOf 3 (some .int) ({ frames := 4, cells := 0, slots := 0, locals := 95 } : Room) D (wM ad cI cJ cZ) (tyX cI cJ cZ) ad n [.ref (ad 0), .int x1, .int x2] S z := by
  refine CtI.of hf (by decide +kernel) (Nat.le_of_ble_eq_true rfl) hD (fun p e s m args below meth c C hr => ?_)
  refine g_sub [0, 1, 2] (lv2 := [(0, .ref (ad 0)), (1, .int x1), (2, .int x2)]) rfl ?_
  unfold m_X7_hoursOf
  refine g_iload_n (pc := 0) C dX7_hoursOf_0 (i := 2) rfl 2 rfl ?_
  refine g_iconst (pc := 1) (v := -1) C dX7_hoursOf_1 (by decide) ?_
  refine g_icmp_ne (pc := 2) (tgt := 13) C dX7_hoursOf_2 (by decide) ?_ ?_
  · refine g_aload_n (pc := 13) C dX7_hoursOf_13 (i := 0) rfl 0 rfl ?_
    refine g_iload_n (pc := 14) C dX7_hoursOf_14 (i := 1) rfl 1 rfl ?_
    refine g_iload_n (pc := 15) C dX7_hoursOf_15 (i := 2) rfl 2 rfl ?_
    refine g_callVi (pc := 16) (As := [.int _, .int _]) C q1039 mw_X7_lightOf (fun _ hz => c_X7_lightOf C.2.2.2.2.2.2.2.1 hz) ⟨Nat.le_of_ble_eq_true rfl, Nat.le_of_ble_eq_true rfl⟩ rfl rfl 0 rfl rfl rfl (Nat.le_of_ble_eq_true rfl) dX7_hoursOf_16 fun r2 S1 => ?_
    refine g_callSi (pc := 19) (As := [.int _]) C q1055 mw_X7_ones (fun _ hz => c_X7_ones C.2.2.2.2.2.2.2.1 hz) ⟨Nat.le_of_ble_eq_true rfl, Nat.le_of_ble_eq_true rfl⟩ rfl rfl rfl (Nat.le_of_ble_eq_true rfl) dX7_hoursOf_19 fun r4 S3 => ?_
    exact g_iret (pc := 22) C hr dX7_hoursOf_22
  · refine g_aload_n (pc := 5) C dX7_hoursOf_5 (i := 0) rfl 0 rfl ?_
    refine g_iload_n (pc := 6) C dX7_hoursOf_6 (i := 1) rfl 1 rfl ?_
    refine g_callVi (pc := 7) (As := [.int _]) C q1051 mw_X7_yearOf (fun _ hz => c_X7_yearOf C.2.2.2.2.2.2.2.1 hz) ⟨Nat.le_of_ble_eq_true rfl, Nat.le_of_ble_eq_true rfl⟩ rfl rfl 0 rfl rfl rfl (Nat.le_of_ble_eq_true rfl) dX7_hoursOf_7 fun r6 S5 => ?_
    refine g_goto (pc := 10) (tgt := 22) C dX7_hoursOf_10 (by decide) ?_
    exact g_iret (pc := 22) C hr dX7_hoursOf_22
noncomputable def m_X7_hours (x1 : Int32) (x2 : Int32) (S : St) : Option (Int32 × St) :=
bnd (m_X7_isCell x1 S) fun r2 S1 =>
if r2 = 0 then (
some ((-2 : Int32), S1))
else
if x2 = (-1 : Int32) then (
bnd (m_X7_hoursOf x1 x2 S1) fun r4 S3 =>
some (r4, S3))
else
bnd (m_X7_isFour x2 S1) fun r6 S5 =>
if r6 = 0 then (
some ((-2 : Int32), S5))
else
bnd (m_X7_hoursOf x1 x2 S5) fun r8 S7 =>
some (r8, S7)
set_option maxRecDepth 20000 in
theorem c_X7_hours {l : Launch} {D : va_G} {ad : Nat → Nat} {cI cJ cZ : ClassId} {n : Nat} (hD : ∀ sz S, va_D (Adr ad n sz) (wM ad cI cJ cZ S)) {x1 : Int32} {x2 : Int32} {S : St} {z : Int32 × St} (hf : m_X7_hours x1 x2 S = some z) : CtI l yX7_hours cX7_hours 3 (some .int) ({ frames := 5, cells := 0, slots := 0, locals := 117 } : Room) D (wM ad cI cJ cZ) (tyX cI cJ cZ) ad n [.ref (ad 0), .int x1, .int x2] S z := by
  refine CtI.of hf (by decide +kernel) (Nat.le_of_ble_eq_true rfl) hD (fun p e s m args below meth c C hr => ?_)
  refine g_sub [0, 1, 2] (lv2 := [(0, .ref (ad 0)), (1, .int x1), (2, .int x2)]) rfl ?_
  unfold m_X7_hours
  refine g_aload_n (pc := 0) C dX7_hours_0 (i := 0) rfl 0 rfl ?_
  refine g_iload_n (pc := 1) C dX7_hours_1 (i := 1) rfl 1 rfl ?_
  refine g_callVi (pc := 2) (As := [.int _]) C q983 mw_X7_isCell (fun _ hz => c_X7_isCell C.2.2.2.2.2.2.2.1 hz) ⟨Nat.le_of_ble_eq_true rfl, Nat.le_of_ble_eq_true rfl⟩ rfl rfl 0 rfl rfl rfl (Nat.le_of_ble_eq_true rfl) dX7_hours_2 fun r2 S1 => ?_
  refine g_if_eq (pc := 5) (tgt := 29) C dX7_hours_5 (by decide) ?_ ?_
  · refine g_bipush (pc := 29) (v := -2) C dX7_hours_29 (by decide) ?_
    exact g_iret (pc := 31) C hr dX7_hours_31
  · refine g_iload_n (pc := 8) C dX7_hours_8 (i := 2) rfl 2 rfl ?_
    refine g_iconst (pc := 9) (v := -1) C dX7_hours_9 (by decide) ?_
    refine g_icmp_eq (pc := 10) (tgt := 20) C dX7_hours_10 (by decide) ?_ ?_
    · refine g_aload_n (pc := 20) C dX7_hours_20 (i := 0) rfl 0 rfl ?_
      refine g_iload_n (pc := 21) C dX7_hours_21 (i := 1) rfl 1 rfl ?_
      refine g_iload_n (pc := 22) C dX7_hours_22 (i := 2) rfl 2 rfl ?_
      refine g_callVi (pc := 23) (As := [.int _, .int _]) C q1047 mw_X7_hoursOf (fun _ hz => c_X7_hoursOf C.2.2.2.2.2.2.2.1 hz) ⟨Nat.le_of_ble_eq_true rfl, Nat.le_of_ble_eq_true rfl⟩ rfl rfl 0 rfl rfl rfl (Nat.le_of_ble_eq_true rfl) dX7_hours_23 fun r4 S3 => ?_
      refine g_goto (pc := 26) (tgt := 31) C dX7_hours_26 (by decide) ?_
      exact g_iret (pc := 31) C hr dX7_hours_31
    · refine g_iload_n (pc := 13) C dX7_hours_13 (i := 2) rfl 2 rfl ?_
      refine g_callSi (pc := 14) (As := [.int _]) C q1002 mw_X7_isFour (fun _ hz => c_X7_isFour C.2.2.2.2.2.2.2.1 hz) ⟨Nat.le_of_ble_eq_true rfl, Nat.le_of_ble_eq_true rfl⟩ rfl rfl rfl (Nat.le_of_ble_eq_true rfl) dX7_hours_14 fun r6 S5 => ?_
      refine g_if_eq (pc := 17) (tgt := 29) C dX7_hours_17 (by decide) ?_ ?_
      · refine g_bipush (pc := 29) (v := -2) C dX7_hours_29 (by decide) ?_
        exact g_iret (pc := 31) C hr dX7_hours_31
      · refine g_aload_n (pc := 20) C dX7_hours_20 (i := 0) rfl 0 rfl ?_
        refine g_iload_n (pc := 21) C dX7_hours_21 (i := 1) rfl 1 rfl ?_
        refine g_iload_n (pc := 22) C dX7_hours_22 (i := 2) rfl 2 rfl ?_
        refine g_callVi (pc := 23) (As := [.int _, .int _]) C q1047 mw_X7_hoursOf (fun _ hz => c_X7_hoursOf C.2.2.2.2.2.2.2.1 hz) ⟨Nat.le_of_ble_eq_true rfl, Nat.le_of_ble_eq_true rfl⟩ rfl rfl 0 rfl rfl rfl (Nat.le_of_ble_eq_true rfl) dX7_hours_23 fun r8 S7 => ?_
        refine g_goto (pc := 26) (tgt := 31) C dX7_hours_26 (by decide) ?_
        exact g_iret (pc := 31) C hr dX7_hours_31
noncomputable def b_X7_hasOf_14 (x1 : Int32) (x2 : Int32) (k : Int32 → Int32 → St → Option (Int32 × St)) (rec : Int32 → Int32 → Int32 → St → Option (Int32 × St)) (x4 : Int32) (x5 : Int32) (x6 : Int32) (S : St) : Option (Int32 × St) :=
if x6 < (gI S 41 0) then (
chk x6 12 <|
if (gI S 4 (ix x6)) = x1 then (
nm ((x4 ||| ((1 : Int32) <<< (x6 &&& 31)))) fun y8 =>
chk x6 12 <|
if (gI S 4 (ix x6)) = x1 then (
bnd (m_X7_yearOf x6 S) fun r11 S10 =>
nm ((x5 + r11)) fun y12 =>
rec y8 y12 (x6 + 1) S10)
else
nm ((x5 + (0 : Int32))) fun y9 =>
rec y8 y9 (x6 + 1) S)
else
nm ((x4 ||| (0 : Int32))) fun y3 =>
chk x6 12 <|
if (gI S 4 (ix x6)) = x1 then (
bnd (m_X7_yearOf x6 S) fun r6 S5 =>
nm ((x5 + r6)) fun y7 =>
rec y3 y7 (x6 + 1) S5)
else
nm ((x5 + (0 : Int32))) fun y4 =>
rec y3 y4 (x6 + 1) S)
else
k x4 x5 S
noncomputable def m_X7_hasOf (x1 : Int32) (x2 : Int32) (S : St) : Option (Int32 × St) :=
bnd (m_X7_faultNow S) fun r2 S1 =>
it3 (b_X7_hasOf_14 x1 x2 (fun x4_S13 x5_S13 S13 =>
if x2 = 0 then (
some (x4_S13, S13))
else
some (x5_S13, S13))) 5000 (0 : Int32) (0 : Int32) (0 : Int32) S1
set_option maxRecDepth 20000 in
theorem u_X7_hasOf_14 (C : Cx p s m args meth c cX7_hasOf 7 RX7 D (tyX cI cJ cZ) ad n (wM ad cI cJ cZ)) (hr : meth.sig.returnType = (some .int)) (x1 : Int32) (x2 : Int32) (k : Int32 → Int32 → St → Option (Int32 × St)) (hk : ∀ (x4 : Int32) (x5 : Int32) (S : St), GM p l e ({ frames := 4, cells := 0, slots := 0, locals := 95 } : Room) s m args below meth c D ad n (wM ad cI cJ cZ) 7 (QI D (wM ad cI cJ cZ) ad n args s below) (k x4 x5 S) S 79 [(2, .int x2), (4, .int x4), (5, .int x5)] []) (rec : Int32 → Int32 → Int32 → St → Option (Int32 × St)) (hrec : ∀ (x4 : Int32) (x5 : Int32) (x6 : Int32) (S : St), GM p l e ({ frames := 4, cells := 0, slots := 0, locals := 95 } : Room) s m args below meth c D ad n (wM ad cI cJ cZ) 7 (QI D (wM ad cI cJ cZ) ad n args s below) (rec x4 x5 x6 S) S 14 [(0, .ref (ad 0)), (1, .int x1), (2, .int x2), (4, .int x4), (5, .int x5), (6, .int x6)] []) (x4 : Int32) (x5 : Int32) (x6 : Int32) (S : St) : GM p l e ({ frames := 4, cells := 0, slots := 0, locals := 95 } : Room) s m args below meth c D ad n (wM ad cI cJ cZ) 7 (QI D (wM ad cI cJ cZ) ad n args s below) (b_X7_hasOf_14 x1 x2 k rec x4 x5 x6 S) S 14 [(0, .ref (ad 0)), (1, .int x1), (2, .int x2), (4, .int x4), (5, .int x5), (6, .int x6)] [] := by
  unfold b_X7_hasOf_14
  refine g_iload (pc := 14) C dX7_hasOf_14 5 rfl ?_
  refine g_aload_n (pc := 16) C dX7_hasOf_16 (i := 0) rfl 0 rfl ?_
  refine gt_X7_cells (pc := 17) C q875 dX7_hasOf_17 ?_
  refine g_icmp_ge (pc := 20) (tgt := 79) C dX7_hasOf_20 (by decide) ?_ ?_
  · refine g_sub [2, 3, 4] rfl (hk _ _ _)
  · refine g_iload (pc := 23) C dX7_hasOf_23 3 rfl ?_
    refine g_aload_n (pc := 25) C dX7_hasOf_25 (i := 0) rfl 0 rfl ?_
    refine gt_X7_owners (pc := 26) C q880 dX7_hasOf_26 ?_
    refine g_iload (pc := 29) C dX7_hasOf_29 5 rfl ?_
    refine al_X7_owners (pc := 31) C dX7_hasOf_31 ?_
    refine g_iload_n (pc := 32) C dX7_hasOf_32 (i := 1) rfl 1 rfl ?_
    refine g_icmp_ne (pc := 33) (tgt := 43) C dX7_hasOf_33 (by decide) ?_ ?_
    · refine g_iconst (pc := 43) (v := 0) C dX7_hasOf_43 (by decide) ?_
      refine g_ior (pc := 44) C dX7_hasOf_44 ?_
      refine g_nmi fun y3 => ?_
      refine g_istore (pc := 45) (i := 4) (j := 0) (lv2 := [(4, .int y3), (0, .ref (ad 0)), (1, .int x1), (2, .int x2), (5, .int x5), (6, .int x6)]) C dX7_hasOf_45 (by decide) rfl ?_
      refine g_iload (pc := 47) C dX7_hasOf_47 4 rfl ?_
      refine g_aload_n (pc := 49) C dX7_hasOf_49 (i := 0) rfl 1 rfl ?_
      refine gt_X7_owners (pc := 50) C q880 dX7_hasOf_50 ?_
      refine g_iload (pc := 53) C dX7_hasOf_53 5 rfl ?_
      refine al_X7_owners (pc := 55) C dX7_hasOf_55 ?_
      refine g_iload_n (pc := 56) C dX7_hasOf_56 (i := 1) rfl 2 rfl ?_
      refine g_icmp_ne (pc := 57) (tgt := 69) C dX7_hasOf_57 (by decide) ?_ ?_
      · refine g_iconst (pc := 69) (v := 0) C dX7_hasOf_69 (by decide) ?_
        refine g_iadd (pc := 70) C dX7_hasOf_70 ?_
        refine g_nmi fun y4 => ?_
        refine g_istore (pc := 71) (i := 5) (j := 0) (lv2 := [(5, .int y4), (4, .int y3), (0, .ref (ad 0)), (1, .int x1), (2, .int x2), (6, .int x6)]) C dX7_hasOf_71 (by decide) rfl ?_
        refine g_iinc (pc := 73) (v := (x6 + 1)) (lv2 := [(6, .int (x6 + 1)), (5, .int y4), (4, .int y3), (0, .ref (ad 0)), (1, .int x1), (2, .int x2)]) C dX7_hasOf_73 5 rfl rfl (by decide) rfl ?_
        refine g_goto (pc := 76) (tgt := 14) C dX7_hasOf_76 (by decide) ?_
        refine g_sub [3, 4, 5, 2, 1, 0] rfl (hrec _ _ _ _)
      · refine g_aload_n (pc := 60) C dX7_hasOf_60 (i := 0) rfl 1 rfl ?_
        refine g_iload (pc := 61) C dX7_hasOf_61 5 rfl ?_
        refine g_callVi (pc := 63) (As := [.int _]) C q1051 mw_X7_yearOf (fun _ hz => c_X7_yearOf C.2.2.2.2.2.2.2.1 hz) ⟨Nat.le_of_ble_eq_true rfl, Nat.le_of_ble_eq_true rfl⟩ rfl rfl 0 rfl rfl rfl (Nat.le_of_ble_eq_true rfl) dX7_hasOf_63 fun r6 S5 => ?_
        refine g_goto (pc := 66) (tgt := 70) C dX7_hasOf_66 (by decide) ?_
        refine g_iadd (pc := 70) C dX7_hasOf_70 ?_
        refine g_nmi fun y7 => ?_
        refine g_istore (pc := 71) (i := 5) (j := 0) (lv2 := [(5, .int y7), (4, .int y3), (0, .ref (ad 0)), (1, .int x1), (2, .int x2), (6, .int x6)]) C dX7_hasOf_71 (by decide) rfl ?_
        refine g_iinc (pc := 73) (v := (x6 + 1)) (lv2 := [(6, .int (x6 + 1)), (5, .int y7), (4, .int y3), (0, .ref (ad 0)), (1, .int x1), (2, .int x2)]) C dX7_hasOf_73 5 rfl rfl (by decide) rfl ?_
        refine g_goto (pc := 76) (tgt := 14) C dX7_hasOf_76 (by decide) ?_
        refine g_sub [3, 4, 5, 2, 1, 0] rfl (hrec _ _ _ _)
    · refine g_iconst (pc := 36) (v := 1) C dX7_hasOf_36 (by decide) ?_
      refine g_iload (pc := 37) C dX7_hasOf_37 5 rfl ?_
      refine g_ishl (pc := 39) C dX7_hasOf_39 ?_
      refine g_goto (pc := 40) (tgt := 44) C dX7_hasOf_40 (by decide) ?_
      refine g_ior (pc := 44) C dX7_hasOf_44 ?_
      refine g_nmi fun y8 => ?_
      refine g_istore (pc := 45) (i := 4) (j := 0) (lv2 := [(4, .int y8), (0, .ref (ad 0)), (1, .int x1), (2, .int x2), (5, .int x5), (6, .int x6)]) C dX7_hasOf_45 (by decide) rfl ?_
      refine g_iload (pc := 47) C dX7_hasOf_47 4 rfl ?_
      refine g_aload_n (pc := 49) C dX7_hasOf_49 (i := 0) rfl 1 rfl ?_
      refine gt_X7_owners (pc := 50) C q880 dX7_hasOf_50 ?_
      refine g_iload (pc := 53) C dX7_hasOf_53 5 rfl ?_
      refine al_X7_owners (pc := 55) C dX7_hasOf_55 ?_
      refine g_iload_n (pc := 56) C dX7_hasOf_56 (i := 1) rfl 2 rfl ?_
      refine g_icmp_ne (pc := 57) (tgt := 69) C dX7_hasOf_57 (by decide) ?_ ?_
      · refine g_iconst (pc := 69) (v := 0) C dX7_hasOf_69 (by decide) ?_
        refine g_iadd (pc := 70) C dX7_hasOf_70 ?_
        refine g_nmi fun y9 => ?_
        refine g_istore (pc := 71) (i := 5) (j := 0) (lv2 := [(5, .int y9), (4, .int y8), (0, .ref (ad 0)), (1, .int x1), (2, .int x2), (6, .int x6)]) C dX7_hasOf_71 (by decide) rfl ?_
        refine g_iinc (pc := 73) (v := (x6 + 1)) (lv2 := [(6, .int (x6 + 1)), (5, .int y9), (4, .int y8), (0, .ref (ad 0)), (1, .int x1), (2, .int x2)]) C dX7_hasOf_73 5 rfl rfl (by decide) rfl ?_
        refine g_goto (pc := 76) (tgt := 14) C dX7_hasOf_76 (by decide) ?_
        refine g_sub [3, 4, 5, 2, 1, 0] rfl (hrec _ _ _ _)
      · refine g_aload_n (pc := 60) C dX7_hasOf_60 (i := 0) rfl 1 rfl ?_
        refine g_iload (pc := 61) C dX7_hasOf_61 5 rfl ?_
        refine g_callVi (pc := 63) (As := [.int _]) C q1051 mw_X7_yearOf (fun _ hz => c_X7_yearOf C.2.2.2.2.2.2.2.1 hz) ⟨Nat.le_of_ble_eq_true rfl, Nat.le_of_ble_eq_true rfl⟩ rfl rfl 0 rfl rfl rfl (Nat.le_of_ble_eq_true rfl) dX7_hasOf_63 fun r11 S10 => ?_
        refine g_goto (pc := 66) (tgt := 70) C dX7_hasOf_66 (by decide) ?_
        refine g_iadd (pc := 70) C dX7_hasOf_70 ?_
        refine g_nmi fun y12 => ?_
        refine g_istore (pc := 71) (i := 5) (j := 0) (lv2 := [(5, .int y12), (4, .int y8), (0, .ref (ad 0)), (1, .int x1), (2, .int x2), (6, .int x6)]) C dX7_hasOf_71 (by decide) rfl ?_
        refine g_iinc (pc := 73) (v := (x6 + 1)) (lv2 := [(6, .int (x6 + 1)), (5, .int y12), (4, .int y8), (0, .ref (ad 0)), (1, .int x1), (2, .int x2)]) C dX7_hasOf_73 5 rfl rfl (by decide) rfl ?_
        refine g_goto (pc := 76) (tgt := 14) C dX7_hasOf_76 (by decide) ?_
        refine g_sub [3, 4, 5, 2, 1, 0] rfl (hrec _ _ _ _)
set_option maxRecDepth 20000 in
theorem c_X7_hasOf {l : Launch} {D : va_G} {ad : Nat → Nat} {cI cJ cZ : ClassId} {n : Nat} (hD : ∀ sz S, va_D (Adr ad n sz) (wM ad cI cJ cZ S)) {x1 : Int32} {x2 : Int32} {S : St} {z : Int32 × St} (hf : m_X7_hasOf x1 x2 S = some z) : CtI l yX7_hasOf cX7_hasOf 7 (some .int) ({ frames := 4, cells := 0, slots := 0, locals := 95 } : Room) D (wM ad cI cJ cZ) (tyX cI cJ cZ) ad n [.ref (ad 0), .int x1, .int x2] S z := by
  refine CtI.of hf (by decide +kernel) (Nat.le_of_ble_eq_true rfl) hD (fun p e s m args below meth c C hr => ?_)
  refine g_sub [0, 1, 2] (lv2 := [(0, .ref (ad 0)), (1, .int x1), (2, .int x2)]) rfl ?_
  unfold m_X7_hasOf
  refine g_aload_n (pc := 0) C dX7_hasOf_0 (i := 0) rfl 0 rfl ?_
  refine g_callVi (pc := 1) (As := []) C q971 mw_X7_faultNow (fun _ hz => c_X7_faultNow C.2.2.2.2.2.2.2.1 hz) ⟨Nat.le_of_ble_eq_true rfl, Nat.le_of_ble_eq_true rfl⟩ rfl rfl 0 rfl rfl rfl (Nat.le_of_ble_eq_true rfl) dX7_hasOf_1 fun r2 S1 => ?_
  refine g_istore_n (pc := 4) (i := 3) (lv2 := [(3, .int r2), (0, .ref (ad 0)), (1, .int x1), (2, .int x2)]) C dX7_hasOf_4 rfl (by decide) rfl ?_
  refine g_iconst (pc := 5) (v := 0) C dX7_hasOf_5 (by decide) ?_
  refine g_istore (pc := 6) (i := 4) (j := 0) (lv2 := [(4, .int (0 : Int32)), (3, .int r2), (0, .ref (ad 0)), (1, .int x1), (2, .int x2)]) C dX7_hasOf_6 (by decide) rfl ?_
  refine g_iconst (pc := 8) (v := 0) C dX7_hasOf_8 (by decide) ?_
  refine g_istore (pc := 9) (i := 5) (j := 0) (lv2 := [(5, .int (0 : Int32)), (4, .int (0 : Int32)), (3, .int r2), (0, .ref (ad 0)), (1, .int x1), (2, .int x2)]) C dX7_hasOf_9 (by decide) rfl ?_
  refine g_iconst (pc := 11) (v := 0) C dX7_hasOf_11 (by decide) ?_
  refine g_istore (pc := 12) (i := 6) (j := 0) (lv2 := [(6, .int (0 : Int32)), (5, .int (0 : Int32)), (4, .int (0 : Int32)), (3, .int r2), (0, .ref (ad 0)), (1, .int x1), (2, .int x2)]) C dX7_hasOf_12 (by decide) rfl ?_
  refine g_sub [4, 5, 6, 2, 1, 0] (lv2 := [(0, .ref (ad 0)), (1, .int x1), (2, .int x2), (4, .int (0 : Int32)), (5, .int (0 : Int32)), (6, .int (0 : Int32))]) rfl ?_
  refine g_it3 (pc := 14) (u_X7_hasOf_14 C hr _ _ _ fun x4_S13 x5_S13 S13 => ?_) _ _ _ _ _
  refine g_iload_n (pc := 79) C dX7_hasOf_79 (i := 2) rfl 0 rfl ?_
  refine g_if_ne (pc := 80) (tgt := 88) C dX7_hasOf_80 (by decide) ?_ ?_
  · refine g_iload (pc := 88) C dX7_hasOf_88 2 rfl ?_
    exact g_iret (pc := 90) C hr dX7_hasOf_90
  · refine g_iload (pc := 83) C dX7_hasOf_83 1 rfl ?_
    refine g_goto (pc := 85) (tgt := 90) C dX7_hasOf_85 (by decide) ?_
    exact g_iret (pc := 90) C hr dX7_hasOf_90
noncomputable def m_X7_has (x1 : Int32) (x2 : Int32) (S : St) : Option (Int32 × St) :=
bnd (m_X7_isFour x1 S) fun r2 S1 =>
if r2 = 0 then (
some ((-2 : Int32), S1))
else
bnd (m_X7_in x2 (0 : Int32) (1 : Int32) S1) fun r4 S3 =>
if r4 = 0 then (
some ((-2 : Int32), S3))
else
bnd (m_X7_hasOf x1 x2 S3) fun r6 S5 =>
some (r6, S5)
set_option maxRecDepth 20000 in
theorem c_X7_has {l : Launch} {D : va_G} {ad : Nat → Nat} {cI cJ cZ : ClassId} {n : Nat} (hD : ∀ sz S, va_D (Adr ad n sz) (wM ad cI cJ cZ S)) {x1 : Int32} {x2 : Int32} {S : St} {z : Int32 × St} (hf : m_X7_has x1 x2 S = some z) : CtI l yX7_has cX7_has 3 (some .int) ({ frames := 5, cells := 0, slots := 0, locals := 121 } : Room) D (wM ad cI cJ cZ) (tyX cI cJ cZ) ad n [.ref (ad 0), .int x1, .int x2] S z := by
  refine CtI.of hf (by decide +kernel) (Nat.le_of_ble_eq_true rfl) hD (fun p e s m args below meth c C hr => ?_)
  refine g_sub [0, 1, 2] (lv2 := [(0, .ref (ad 0)), (1, .int x1), (2, .int x2)]) rfl ?_
  unfold m_X7_has
  refine g_iload_n (pc := 0) C dX7_has_0 (i := 1) rfl 1 rfl ?_
  refine g_callSi (pc := 1) (As := [.int _]) C q1002 mw_X7_isFour (fun _ hz => c_X7_isFour C.2.2.2.2.2.2.2.1 hz) ⟨Nat.le_of_ble_eq_true rfl, Nat.le_of_ble_eq_true rfl⟩ rfl rfl rfl (Nat.le_of_ble_eq_true rfl) dX7_has_1 fun r2 S1 => ?_
  refine g_if_eq (pc := 4) (tgt := 25) C dX7_has_4 (by decide) ?_ ?_
  · refine g_bipush (pc := 25) (v := -2) C dX7_has_25 (by decide) ?_
    exact g_iret (pc := 27) C hr dX7_has_27
  · refine g_iload_n (pc := 7) C dX7_has_7 (i := 2) rfl 2 rfl ?_
    refine g_iconst (pc := 8) (v := 0) C dX7_has_8 (by decide) ?_
    refine g_iconst (pc := 9) (v := 1) C dX7_has_9 (by decide) ?_
    refine g_callSi (pc := 10) (As := [.int _, .int _, .int _]) C q960 mw_X7_in (fun _ hz => c_X7_in C.2.2.2.2.2.2.2.1 hz) ⟨Nat.le_of_ble_eq_true rfl, Nat.le_of_ble_eq_true rfl⟩ rfl rfl rfl (Nat.le_of_ble_eq_true rfl) dX7_has_10 fun r4 S3 => ?_
    refine g_if_eq (pc := 13) (tgt := 25) C dX7_has_13 (by decide) ?_ ?_
    · refine g_bipush (pc := 25) (v := -2) C dX7_has_25 (by decide) ?_
      exact g_iret (pc := 27) C hr dX7_has_27
    · refine g_aload_n (pc := 16) C dX7_has_16 (i := 0) rfl 0 rfl ?_
      refine g_iload_n (pc := 17) C dX7_has_17 (i := 1) rfl 1 rfl ?_
      refine g_iload_n (pc := 18) C dX7_has_18 (i := 2) rfl 2 rfl ?_
      refine g_callVi (pc := 19) (As := [.int _, .int _]) C q1062 mw_X7_hasOf (fun _ hz => c_X7_hasOf C.2.2.2.2.2.2.2.1 hz) ⟨Nat.le_of_ble_eq_true rfl, Nat.le_of_ble_eq_true rfl⟩ rfl rfl 0 rfl rfl rfl (Nat.le_of_ble_eq_true rfl) dX7_has_19 fun r6 S5 => ?_
      refine g_goto (pc := 22) (tgt := 27) C dX7_has_22 (by decide) ?_
      exact g_iret (pc := 27) C hr dX7_has_27
noncomputable def b_X7_laysYears_2 (k : St → Option (St)) (rec : Int32 → St → Option (St)) (x1 : Int32) (S : St) : Option (St) :=
if x1 < (gI S 41 0) then (
bnd (m_X7_yearOf x1 S) fun r2 S1 =>
chk x1 12 <|
nm (sI S1 10 (ix x1) r2) fun S3 =>
rec (x1 + 1) S3)
else
k S
noncomputable def m_X7_laysYears (S : St) : Option (St) :=
it1 (b_X7_laysYears_2 (fun S4 =>
some S4)) 5000 (0 : Int32) S
set_option maxRecDepth 20000 in
theorem u_X7_laysYears_2 (C : Cx p s m args meth c cX7_laysYears 2 RX7 D (tyX cI cJ cZ) ad n (wM ad cI cJ cZ)) (hr : meth.sig.returnType = none) (k : St → Option (St)) (hk : ∀ (S : St), GM p l e ({ frames := 4, cells := 0, slots := 0, locals := 95 } : Room) s m args below meth c D ad n (wM ad cI cJ cZ) 2 (QV D (wM ad cI cJ cZ) ad n args s below) (k S) S 27 [] []) (rec : Int32 → St → Option (St)) (hrec : ∀ (x1 : Int32) (S : St), GM p l e ({ frames := 4, cells := 0, slots := 0, locals := 95 } : Room) s m args below meth c D ad n (wM ad cI cJ cZ) 2 (QV D (wM ad cI cJ cZ) ad n args s below) (rec x1 S) S 2 [(0, .ref (ad 0)), (1, .int x1)] []) (x1 : Int32) (S : St) : GM p l e ({ frames := 4, cells := 0, slots := 0, locals := 95 } : Room) s m args below meth c D ad n (wM ad cI cJ cZ) 2 (QV D (wM ad cI cJ cZ) ad n args s below) (b_X7_laysYears_2 k rec x1 S) S 2 [(0, .ref (ad 0)), (1, .int x1)] [] := by
  unfold b_X7_laysYears_2
  refine g_iload_n (pc := 2) C dX7_laysYears_2 (i := 1) rfl 1 rfl ?_
  refine g_aload_n (pc := 3) C dX7_laysYears_3 (i := 0) rfl 0 rfl ?_
  refine gt_X7_cells (pc := 4) C q875 dX7_laysYears_4 ?_
  refine g_icmp_ge (pc := 7) (tgt := 27) C dX7_laysYears_7 (by decide) ?_ ?_
  · refine g_sub [] rfl (hk _)
  · refine g_aload_n (pc := 10) C dX7_laysYears_10 (i := 0) rfl 0 rfl ?_
    refine gt_X7_years (pc := 11) C q886 dX7_laysYears_11 ?_
    refine g_iload_n (pc := 14) C dX7_laysYears_14 (i := 1) rfl 1 rfl ?_
    refine g_aload_n (pc := 15) C dX7_laysYears_15 (i := 0) rfl 0 rfl ?_
    refine g_iload_n (pc := 16) C dX7_laysYears_16 (i := 1) rfl 1 rfl ?_
    refine g_callVi (pc := 17) (As := [.int _]) C q1051 mw_X7_yearOf (fun _ hz => c_X7_yearOf C.2.2.2.2.2.2.2.1 hz) ⟨Nat.le_of_ble_eq_true rfl, Nat.le_of_ble_eq_true rfl⟩ rfl rfl 0 rfl rfl rfl (Nat.le_of_ble_eq_true rfl) dX7_laysYears_17 fun r2 S1 => ?_
    refine as_X7_years (pc := 20) C dX7_laysYears_20 fun S3 => ?_
    refine g_iinc (pc := 21) (v := (x1 + 1)) (lv2 := [(1, .int (x1 + 1)), (0, .ref (ad 0))]) C dX7_laysYears_21 1 rfl rfl (by decide) rfl ?_
    refine g_goto (pc := 24) (tgt := 2) C dX7_laysYears_24 (by decide) ?_
    refine g_sub [1, 0] rfl (hrec _ _)
set_option maxRecDepth 20000 in
theorem c_X7_laysYears {l : Launch} {D : va_G} {ad : Nat → Nat} {cI cJ cZ : ClassId} {n : Nat} (hD : ∀ sz S, va_D (Adr ad n sz) (wM ad cI cJ cZ S)) {S : St} {z : St} (hf : m_X7_laysYears S = some z) : CtV l yX7_laysYears cX7_laysYears 2 none ({ frames := 4, cells := 0, slots := 0, locals := 95 } : Room) D (wM ad cI cJ cZ) (tyX cI cJ cZ) ad n [.ref (ad 0)] S z := by
  refine CtV.of hf (by decide +kernel) (Nat.le_of_ble_eq_true rfl) hD (fun p e s m args below meth c C hr => ?_)
  refine g_sub [0] (lv2 := [(0, .ref (ad 0))]) rfl ?_
  unfold m_X7_laysYears
  refine g_iconst (pc := 0) (v := 0) C dX7_laysYears_0 (by decide) ?_
  refine g_istore_n (pc := 1) (i := 1) (lv2 := [(1, .int (0 : Int32)), (0, .ref (ad 0))]) C dX7_laysYears_1 rfl (by decide) rfl ?_
  refine g_sub [1, 0] (lv2 := [(0, .ref (ad 0)), (1, .int (0 : Int32))]) rfl ?_
  refine g_it1 (pc := 2) (u_X7_laysYears_2 C hr _ fun S4 => ?_) _ _ _
  exact g_vret (pc := 27) C hr dX7_laysYears_27
noncomputable def m_X7_isNext (x1 : Int32) (x2 : Int32) (S : St) : Option (Int32 × St) :=
if x1 < x2 then (
nm ((x2 - x1)) fun y2 =>
if y2 = (gI S 42 0) then (
some ((1 : Int32), S))
else
if y2 = (1 : Int32) then (
dchk (gI S 42 0) <|
dchk (gI S 42 0) <|
if (x1 / (gI S 42 0)) = (x2 / (gI S 42 0)) then (
some ((1 : Int32), S))
else
some ((0 : Int32), S))
else
some ((0 : Int32), S))
else
nm ((x1 - x2)) fun y1 =>
if y1 = (gI S 42 0) then (
some ((1 : Int32), S))
else
if y1 = (1 : Int32) then (
dchk (gI S 42 0) <|
dchk (gI S 42 0) <|
if (x1 / (gI S 42 0)) = (x2 / (gI S 42 0)) then (
some ((1 : Int32), S))
else
some ((0 : Int32), S))
else
some ((0 : Int32), S)
set_option maxRecDepth 20000 in
theorem c_X7_isNext {l : Launch} {D : va_G} {ad : Nat → Nat} {cI cJ cZ : ClassId} {n : Nat} (hD : ∀ sz S, va_D (Adr ad n sz) (wM ad cI cJ cZ S)) {x1 : Int32} {x2 : Int32} {S : St} {z : Int32 × St} (hf : m_X7_isNext x1 x2 S = some z) : CtI l yX7_isNext cX7_isNext 4 (some .boolean) ({ frames := 0, cells := 0, slots := 0, locals := 0 } : Room) D (wM ad cI cJ cZ) (tyX cI cJ cZ) ad n [.ref (ad 0), .int x1, .int x2] S z := by
  refine CtI.of hf (by decide +kernel) (Nat.le_of_ble_eq_true rfl) hD (fun p e s m args below meth c C hr => ?_)
  refine g_sub [0, 1, 2] (lv2 := [(0, .ref (ad 0)), (1, .int x1), (2, .int x2)]) rfl ?_
  unfold m_X7_isNext
  refine g_iload_n (pc := 0) C dX7_isNext_0 (i := 1) rfl 1 rfl ?_
  refine g_iload_n (pc := 1) C dX7_isNext_1 (i := 2) rfl 2 rfl ?_
  refine g_icmp_ge (pc := 2) (tgt := 11) C dX7_isNext_2 (by decide) ?_ ?_
  · refine g_iload_n (pc := 11) C dX7_isNext_11 (i := 1) rfl 1 rfl ?_
    refine g_iload_n (pc := 12) C dX7_isNext_12 (i := 2) rfl 2 rfl ?_
    refine g_isub (pc := 13) C dX7_isNext_13 ?_
    refine g_nmi fun y1 => ?_
    refine g_istore_n (pc := 14) (i := 3) (lv2 := [(3, .int y1), (0, .ref (ad 0)), (1, .int x1), (2, .int x2)]) C dX7_isNext_14 rfl (by decide) rfl ?_
    refine g_iload_n (pc := 15) C dX7_isNext_15 (i := 3) rfl 0 rfl ?_
    refine g_aload_n (pc := 16) C dX7_isNext_16 (i := 0) rfl 1 rfl ?_
    refine gt_X7_wide (pc := 17) C q876 dX7_isNext_17 ?_
    refine g_icmp_eq (pc := 20) (tgt := 43) C dX7_isNext_20 (by decide) ?_ ?_
    · refine g_iconst (pc := 43) (v := 1) C dX7_isNext_43 (by decide) ?_
      refine g_goto (pc := 44) (tgt := 48) C dX7_isNext_44 (by decide) ?_
      exact g_zretq (pc := 48) C hr (Or.inr rfl) dX7_isNext_48
    · refine g_iload_n (pc := 23) C dX7_isNext_23 (i := 3) rfl 0 rfl ?_
      refine g_iconst (pc := 24) (v := 1) C dX7_isNext_24 (by decide) ?_
      refine g_icmp_ne (pc := 25) (tgt := 47) C dX7_isNext_25 (by decide) ?_ ?_
      · refine g_iconst (pc := 47) (v := 0) C dX7_isNext_47 (by decide) ?_
        exact g_zretq (pc := 48) C hr (Or.inl rfl) dX7_isNext_48
      · refine g_iload_n (pc := 28) C dX7_isNext_28 (i := 1) rfl 2 rfl ?_
        refine g_aload_n (pc := 29) C dX7_isNext_29 (i := 0) rfl 1 rfl ?_
        refine gt_X7_wide (pc := 30) C q876 dX7_isNext_30 ?_
        refine g_idiv (pc := 33) C dX7_isNext_33 ?_
        refine g_iload_n (pc := 34) C dX7_isNext_34 (i := 2) rfl 3 rfl ?_
        refine g_aload_n (pc := 35) C dX7_isNext_35 (i := 0) rfl 1 rfl ?_
        refine gt_X7_wide (pc := 36) C q876 dX7_isNext_36 ?_
        refine g_idiv (pc := 39) C dX7_isNext_39 ?_
        refine g_icmp_ne (pc := 40) (tgt := 47) C dX7_isNext_40 (by decide) ?_ ?_
        · refine g_iconst (pc := 47) (v := 0) C dX7_isNext_47 (by decide) ?_
          exact g_zretq (pc := 48) C hr (Or.inl rfl) dX7_isNext_48
        · refine g_iconst (pc := 43) (v := 1) C dX7_isNext_43 (by decide) ?_
          refine g_goto (pc := 44) (tgt := 48) C dX7_isNext_44 (by decide) ?_
          exact g_zretq (pc := 48) C hr (Or.inr rfl) dX7_isNext_48
  · refine g_iload_n (pc := 5) C dX7_isNext_5 (i := 2) rfl 2 rfl ?_
    refine g_iload_n (pc := 6) C dX7_isNext_6 (i := 1) rfl 1 rfl ?_
    refine g_isub (pc := 7) C dX7_isNext_7 ?_
    refine g_goto (pc := 8) (tgt := 14) C dX7_isNext_8 (by decide) ?_
    refine g_nmi fun y2 => ?_
    refine g_istore_n (pc := 14) (i := 3) (lv2 := [(3, .int y2), (0, .ref (ad 0)), (1, .int x1), (2, .int x2)]) C dX7_isNext_14 rfl (by decide) rfl ?_
    refine g_iload_n (pc := 15) C dX7_isNext_15 (i := 3) rfl 0 rfl ?_
    refine g_aload_n (pc := 16) C dX7_isNext_16 (i := 0) rfl 1 rfl ?_
    refine gt_X7_wide (pc := 17) C q876 dX7_isNext_17 ?_
    refine g_icmp_eq (pc := 20) (tgt := 43) C dX7_isNext_20 (by decide) ?_ ?_
    · refine g_iconst (pc := 43) (v := 1) C dX7_isNext_43 (by decide) ?_
      refine g_goto (pc := 44) (tgt := 48) C dX7_isNext_44 (by decide) ?_
      exact g_zretq (pc := 48) C hr (Or.inr rfl) dX7_isNext_48
    · refine g_iload_n (pc := 23) C dX7_isNext_23 (i := 3) rfl 0 rfl ?_
      refine g_iconst (pc := 24) (v := 1) C dX7_isNext_24 (by decide) ?_
      refine g_icmp_ne (pc := 25) (tgt := 47) C dX7_isNext_25 (by decide) ?_ ?_
      · refine g_iconst (pc := 47) (v := 0) C dX7_isNext_47 (by decide) ?_
        exact g_zretq (pc := 48) C hr (Or.inl rfl) dX7_isNext_48
      · refine g_iload_n (pc := 28) C dX7_isNext_28 (i := 1) rfl 2 rfl ?_
        refine g_aload_n (pc := 29) C dX7_isNext_29 (i := 0) rfl 1 rfl ?_
        refine gt_X7_wide (pc := 30) C q876 dX7_isNext_30 ?_
        refine g_idiv (pc := 33) C dX7_isNext_33 ?_
        refine g_iload_n (pc := 34) C dX7_isNext_34 (i := 2) rfl 3 rfl ?_
        refine g_aload_n (pc := 35) C dX7_isNext_35 (i := 0) rfl 1 rfl ?_
        refine gt_X7_wide (pc := 36) C q876 dX7_isNext_36 ?_
        refine g_idiv (pc := 39) C dX7_isNext_39 ?_
        refine g_icmp_ne (pc := 40) (tgt := 47) C dX7_isNext_40 (by decide) ?_ ?_
        · refine g_iconst (pc := 47) (v := 0) C dX7_isNext_47 (by decide) ?_
          exact g_zretq (pc := 48) C hr (Or.inl rfl) dX7_isNext_48
        · refine g_iconst (pc := 43) (v := 1) C dX7_isNext_43 (by decide) ?_
          refine g_goto (pc := 44) (tgt := 48) C dX7_isNext_44 (by decide) ?_
          exact g_zretq (pc := 48) C hr (Or.inr rfl) dX7_isNext_48
noncomputable def b_X7_hangs_34 (x1 : Int32) (x3 : Int32) (x4 : Int32) (k : Int32 → St → Option (Int32 × St)) (rec : Int32 → Int32 → St → Option (Int32 × St)) (x2 : Int32) (x5 : Int32) (S : St) : Option (Int32 × St) :=
if x5 < (gI S 41 0) then (
bnd (m_X7_isIn x2 x4 S) fun r3 S2 =>
if r3 = 0 then (
nm ((x2 ||| (0 : Int32))) fun y4 =>
rec y4 (x5 + 1) S2)
else
bnd (m_X7_isIn x1 x5 S2) fun r6 S5 =>
if r6 = 0 then (
nm ((x2 ||| (0 : Int32))) fun y7 =>
rec y7 (x5 + 1) S5)
else
bnd (m_X7_isNext x4 x5 S5) fun r9 S8 =>
if r9 = 0 then (
nm ((x2 ||| (0 : Int32))) fun y10 =>
rec y10 (x5 + 1) S8)
else
nm ((x2 ||| ((1 : Int32) <<< (x5 &&& 31)))) fun y11 =>
rec y11 (x5 + 1) S8)
else
k x2 S
noncomputable def b_X7_hangs_22 (x1 : Int32) (x3 : Int32) (k : Int32 → St → Option (Int32 × St)) (rec : Int32 → Int32 → St → Option (Int32 × St)) (x2 : Int32) (x4 : Int32) (S : St) : Option (Int32 × St) :=
if x4 < (gI S 41 0) then (
it2 (b_X7_hangs_34 x1 x3 x4 (fun x2_S12 S12 =>
rec x2_S12 (x4 + 1) S12)) 5000 x2 (0 : Int32) S)
else
k x2 S
noncomputable def b_X7_hangs_13 (x1 : Int32) (k : Int32 → St → Option (Int32 × St)) (rec : Int32 → Int32 → St → Option (Int32 × St)) (x2 : Int32) (x3 : Int32) (S : St) : Option (Int32 × St) :=
if x3 < (12 : Int32) then (
it2 (b_X7_hangs_22 x1 x3 (fun x2_S13 S13 =>
rec x2_S13 (x3 + 1) S13)) 5000 x2 (0 : Int32) S)
else
k x2 S
noncomputable def m_X7_hangs (x1 : Int32) (S : St) : Option (Int32 × St) :=
if x1 = 0 then (
some ((0 : Int32), S))
else
nm ((x1 &&& (-x1))) fun y1 =>
it2 (b_X7_hangs_13 x1 (fun x2_S14 S14 =>
if x2_S14 = x1 then (
some ((1 : Int32), S14))
else
some ((0 : Int32), S14))) 5000 y1 (0 : Int32) S
set_option maxRecDepth 20000 in
theorem u_X7_hangs_34 (C : Cx p s m args meth c cX7_hangs 6 RX7 D (tyX cI cJ cZ) ad n (wM ad cI cJ cZ)) (hr : meth.sig.returnType = (some .boolean)) (x1 : Int32) (x3 : Int32) (x4 : Int32) (k : Int32 → St → Option (Int32 × St)) (hk : ∀ (x2 : Int32) (S : St), GM p l e ({ frames := 1, cells := 0, slots := 0, locals := 23 } : Room) s m args below meth c D ad n (wM ad cI cJ cZ) 6 (QI D (wM ad cI cJ cZ) ad n args s below) (k x2 S) S 89 [(0, .ref (ad 0)), (1, .int x1), (2, .int x2), (3, .int x3), (4, .int x4)] []) (rec : Int32 → Int32 → St → Option (Int32 × St)) (hrec : ∀ (x2 : Int32) (x5 : Int32) (S : St), GM p l e ({ frames := 1, cells := 0, slots := 0, locals := 23 } : Room) s m args below meth c D ad n (wM ad cI cJ cZ) 6 (QI D (wM ad cI cJ cZ) ad n args s below) (rec x2 x5 S) S 34 [(0, .ref (ad 0)), (1, .int x1), (2, .int x2), (3, .int x3), (4, .int x4), (5, .int x5)] []) (x2 : Int32) (x5 : Int32) (S : St) : GM p l e ({ frames := 1, cells := 0, slots := 0, locals := 23 } : Room) s m args below meth c D ad n (wM ad cI cJ cZ) 6 (QI D (wM ad cI cJ cZ) ad n args s below) (b_X7_hangs_34 x1 x3 x4 k rec x2 x5 S) S 34 [(0, .ref (ad 0)), (1, .int x1), (2, .int x2), (3, .int x3), (4, .int x4), (5, .int x5)] [] := by
  unfold b_X7_hangs_34
  refine g_iload (pc := 34) C dX7_hangs_34 5 rfl ?_
  refine g_aload_n (pc := 36) C dX7_hangs_36 (i := 0) rfl 0 rfl ?_
  refine gt_X7_cells (pc := 37) C q875 dX7_hangs_37 ?_
  refine g_icmp_ge (pc := 40) (tgt := 89) C dX7_hangs_40 (by decide) ?_ ?_
  · refine g_sub [0, 1, 2, 3, 4] rfl (hk _ _)
  · refine g_iload_n (pc := 43) C dX7_hangs_43 (i := 2) rfl 2 rfl ?_
    refine g_iload_n (pc := 44) C dX7_hangs_44 (i := 2) rfl 2 rfl ?_
    refine g_iload (pc := 45) C dX7_hangs_45 4 rfl ?_
    refine g_callSi (pc := 47) (As := [.int _, .int _]) C q1090 mw_X7_isIn (fun _ hz => c_X7_isIn C.2.2.2.2.2.2.2.1 hz) ⟨Nat.le_of_ble_eq_true rfl, Nat.le_of_ble_eq_true rfl⟩ rfl rfl rfl (Nat.le_of_ble_eq_true rfl) dX7_hangs_47 fun r3 S2 => ?_
    refine g_if_eq (pc := 50) (tgt := 80) C dX7_hangs_50 (by decide) ?_ ?_
    · refine g_iconst (pc := 80) (v := 0) C dX7_hangs_80 (by decide) ?_
      refine g_ior (pc := 81) C dX7_hangs_81 ?_
      refine g_nmi fun y4 => ?_
      refine g_istore_n (pc := 82) (i := 2) (lv2 := [(2, .int y4), (0, .ref (ad 0)), (1, .int x1), (3, .int x3), (4, .int x4), (5, .int x5)]) C dX7_hangs_82 rfl (by decide) rfl ?_
      refine g_iinc (pc := 83) (v := (x5 + 1)) (lv2 := [(5, .int (x5 + 1)), (2, .int y4), (0, .ref (ad 0)), (1, .int x1), (3, .int x3), (4, .int x4)]) C dX7_hangs_83 5 rfl rfl (by decide) rfl ?_
      refine g_goto (pc := 86) (tgt := 34) C dX7_hangs_86 (by decide) ?_
      refine g_sub [2, 3, 1, 4, 5, 0] rfl (hrec _ _ _)
    · refine g_iload_n (pc := 53) C dX7_hangs_53 (i := 1) rfl 1 rfl ?_
      refine g_iload (pc := 54) C dX7_hangs_54 5 rfl ?_
      refine g_callSi (pc := 56) (As := [.int _, .int _]) C q1090 mw_X7_isIn (fun _ hz => c_X7_isIn C.2.2.2.2.2.2.2.1 hz) ⟨Nat.le_of_ble_eq_true rfl, Nat.le_of_ble_eq_true rfl⟩ rfl rfl rfl (Nat.le_of_ble_eq_true rfl) dX7_hangs_56 fun r6 S5 => ?_
      refine g_if_eq (pc := 59) (tgt := 80) C dX7_hangs_59 (by decide) ?_ ?_
      · refine g_iconst (pc := 80) (v := 0) C dX7_hangs_80 (by decide) ?_
        refine g_ior (pc := 81) C dX7_hangs_81 ?_
        refine g_nmi fun y7 => ?_
        refine g_istore_n (pc := 82) (i := 2) (lv2 := [(2, .int y7), (0, .ref (ad 0)), (1, .int x1), (3, .int x3), (4, .int x4), (5, .int x5)]) C dX7_hangs_82 rfl (by decide) rfl ?_
        refine g_iinc (pc := 83) (v := (x5 + 1)) (lv2 := [(5, .int (x5 + 1)), (2, .int y7), (0, .ref (ad 0)), (1, .int x1), (3, .int x3), (4, .int x4)]) C dX7_hangs_83 5 rfl rfl (by decide) rfl ?_
        refine g_goto (pc := 86) (tgt := 34) C dX7_hangs_86 (by decide) ?_
        refine g_sub [2, 3, 1, 4, 5, 0] rfl (hrec _ _ _)
      · refine g_aload_n (pc := 62) C dX7_hangs_62 (i := 0) rfl 0 rfl ?_
        refine g_iload (pc := 63) C dX7_hangs_63 4 rfl ?_
        refine g_iload (pc := 65) C dX7_hangs_65 5 rfl ?_
        refine g_callVi (pc := 67) (As := [.int _, .int _]) C q1101 mw_X7_isNext (fun _ hz => c_X7_isNext C.2.2.2.2.2.2.2.1 hz) ⟨Nat.le_of_ble_eq_true rfl, Nat.le_of_ble_eq_true rfl⟩ rfl rfl 0 rfl rfl rfl (Nat.le_of_ble_eq_true rfl) dX7_hangs_67 fun r9 S8 => ?_
        refine g_if_eq (pc := 70) (tgt := 80) C dX7_hangs_70 (by decide) ?_ ?_
        · refine g_iconst (pc := 80) (v := 0) C dX7_hangs_80 (by decide) ?_
          refine g_ior (pc := 81) C dX7_hangs_81 ?_
          refine g_nmi fun y10 => ?_
          refine g_istore_n (pc := 82) (i := 2) (lv2 := [(2, .int y10), (0, .ref (ad 0)), (1, .int x1), (3, .int x3), (4, .int x4), (5, .int x5)]) C dX7_hangs_82 rfl (by decide) rfl ?_
          refine g_iinc (pc := 83) (v := (x5 + 1)) (lv2 := [(5, .int (x5 + 1)), (2, .int y10), (0, .ref (ad 0)), (1, .int x1), (3, .int x3), (4, .int x4)]) C dX7_hangs_83 5 rfl rfl (by decide) rfl ?_
          refine g_goto (pc := 86) (tgt := 34) C dX7_hangs_86 (by decide) ?_
          refine g_sub [2, 3, 1, 4, 5, 0] rfl (hrec _ _ _)
        · refine g_iconst (pc := 73) (v := 1) C dX7_hangs_73 (by decide) ?_
          refine g_iload (pc := 74) C dX7_hangs_74 5 rfl ?_
          refine g_ishl (pc := 76) C dX7_hangs_76 ?_
          refine g_goto (pc := 77) (tgt := 81) C dX7_hangs_77 (by decide) ?_
          refine g_ior (pc := 81) C dX7_hangs_81 ?_
          refine g_nmi fun y11 => ?_
          refine g_istore_n (pc := 82) (i := 2) (lv2 := [(2, .int y11), (0, .ref (ad 0)), (1, .int x1), (3, .int x3), (4, .int x4), (5, .int x5)]) C dX7_hangs_82 rfl (by decide) rfl ?_
          refine g_iinc (pc := 83) (v := (x5 + 1)) (lv2 := [(5, .int (x5 + 1)), (2, .int y11), (0, .ref (ad 0)), (1, .int x1), (3, .int x3), (4, .int x4)]) C dX7_hangs_83 5 rfl rfl (by decide) rfl ?_
          refine g_goto (pc := 86) (tgt := 34) C dX7_hangs_86 (by decide) ?_
          refine g_sub [2, 3, 1, 4, 5, 0] rfl (hrec _ _ _)
set_option maxRecDepth 20000 in
theorem u_X7_hangs_22 (C : Cx p s m args meth c cX7_hangs 6 RX7 D (tyX cI cJ cZ) ad n (wM ad cI cJ cZ)) (hr : meth.sig.returnType = (some .boolean)) (x1 : Int32) (x3 : Int32) (k : Int32 → St → Option (Int32 × St)) (hk : ∀ (x2 : Int32) (S : St), GM p l e ({ frames := 1, cells := 0, slots := 0, locals := 23 } : Room) s m args below meth c D ad n (wM ad cI cJ cZ) 6 (QI D (wM ad cI cJ cZ) ad n args s below) (k x2 S) S 95 [(0, .ref (ad 0)), (1, .int x1), (2, .int x2), (3, .int x3)] []) (rec : Int32 → Int32 → St → Option (Int32 × St)) (hrec : ∀ (x2 : Int32) (x4 : Int32) (S : St), GM p l e ({ frames := 1, cells := 0, slots := 0, locals := 23 } : Room) s m args below meth c D ad n (wM ad cI cJ cZ) 6 (QI D (wM ad cI cJ cZ) ad n args s below) (rec x2 x4 S) S 22 [(0, .ref (ad 0)), (1, .int x1), (2, .int x2), (3, .int x3), (4, .int x4)] []) (x2 : Int32) (x4 : Int32) (S : St) : GM p l e ({ frames := 1, cells := 0, slots := 0, locals := 23 } : Room) s m args below meth c D ad n (wM ad cI cJ cZ) 6 (QI D (wM ad cI cJ cZ) ad n args s below) (b_X7_hangs_22 x1 x3 k rec x2 x4 S) S 22 [(0, .ref (ad 0)), (1, .int x1), (2, .int x2), (3, .int x3), (4, .int x4)] [] := by
  unfold b_X7_hangs_22
  refine g_iload (pc := 22) C dX7_hangs_22 4 rfl ?_
  refine g_aload_n (pc := 24) C dX7_hangs_24 (i := 0) rfl 0 rfl ?_
  refine gt_X7_cells (pc := 25) C q875 dX7_hangs_25 ?_
  refine g_icmp_ge (pc := 28) (tgt := 95) C dX7_hangs_28 (by decide) ?_ ?_
  · refine g_sub [0, 1, 2, 3] rfl (hk _ _)
  · refine g_iconst (pc := 31) (v := 0) C dX7_hangs_31 (by decide) ?_
    refine g_istore (pc := 32) (i := 5) (j := 0) (lv2 := [(5, .int (0 : Int32)), (0, .ref (ad 0)), (1, .int x1), (2, .int x2), (3, .int x3), (4, .int x4)]) C dX7_hangs_32 (by decide) rfl ?_
    refine g_sub [1, 2, 3, 4, 5, 0] (lv2 := [(0, .ref (ad 0)), (1, .int x1), (2, .int x2), (3, .int x3), (4, .int x4), (5, .int (0 : Int32))]) rfl ?_
    refine g_it2 (pc := 34) (u_X7_hangs_34 C hr _ _ _ _ fun x2_S12 S12 => ?_) _ _ _ _
    refine g_iinc (pc := 89) (v := (x4 + 1)) (lv2 := [(4, .int (x4 + 1)), (0, .ref (ad 0)), (1, .int x1), (2, .int x2_S12), (3, .int x3)]) C dX7_hangs_89 4 rfl rfl (by decide) rfl ?_
    refine g_goto (pc := 92) (tgt := 22) C dX7_hangs_92 (by decide) ?_
    refine g_sub [1, 2, 3, 4, 0] rfl (hrec _ _ _)
set_option maxRecDepth 20000 in
theorem u_X7_hangs_13 (C : Cx p s m args meth c cX7_hangs 6 RX7 D (tyX cI cJ cZ) ad n (wM ad cI cJ cZ)) (hr : meth.sig.returnType = (some .boolean)) (x1 : Int32) (k : Int32 → St → Option (Int32 × St)) (hk : ∀ (x2 : Int32) (S : St), GM p l e ({ frames := 1, cells := 0, slots := 0, locals := 23 } : Room) s m args below meth c D ad n (wM ad cI cJ cZ) 6 (QI D (wM ad cI cJ cZ) ad n args s below) (k x2 S) S 101 [(1, .int x1), (2, .int x2)] []) (rec : Int32 → Int32 → St → Option (Int32 × St)) (hrec : ∀ (x2 : Int32) (x3 : Int32) (S : St), GM p l e ({ frames := 1, cells := 0, slots := 0, locals := 23 } : Room) s m args below meth c D ad n (wM ad cI cJ cZ) 6 (QI D (wM ad cI cJ cZ) ad n args s below) (rec x2 x3 S) S 13 [(0, .ref (ad 0)), (1, .int x1), (2, .int x2), (3, .int x3)] []) (x2 : Int32) (x3 : Int32) (S : St) : GM p l e ({ frames := 1, cells := 0, slots := 0, locals := 23 } : Room) s m args below meth c D ad n (wM ad cI cJ cZ) 6 (QI D (wM ad cI cJ cZ) ad n args s below) (b_X7_hangs_13 x1 k rec x2 x3 S) S 13 [(0, .ref (ad 0)), (1, .int x1), (2, .int x2), (3, .int x3)] [] := by
  unfold b_X7_hangs_13
  refine g_iload_n (pc := 13) C dX7_hangs_13 (i := 3) rfl 3 rfl ?_
  refine g_bipush (pc := 14) (v := 12) C dX7_hangs_14 (by decide) ?_
  refine g_icmp_ge (pc := 16) (tgt := 101) C dX7_hangs_16 (by decide) ?_ ?_
  · refine g_sub [1, 2] rfl (hk _ _)
  · refine g_iconst (pc := 19) (v := 0) C dX7_hangs_19 (by decide) ?_
    refine g_istore (pc := 20) (i := 4) (j := 0) (lv2 := [(4, .int (0 : Int32)), (0, .ref (ad 0)), (1, .int x1), (2, .int x2), (3, .int x3)]) C dX7_hangs_20 (by decide) rfl ?_
    refine g_sub [1, 2, 3, 4, 0] (lv2 := [(0, .ref (ad 0)), (1, .int x1), (2, .int x2), (3, .int x3), (4, .int (0 : Int32))]) rfl ?_
    refine g_it2 (pc := 22) (u_X7_hangs_22 C hr _ _ _ fun x2_S13 S13 => ?_) _ _ _ _
    refine g_iinc (pc := 95) (v := (x3 + 1)) (lv2 := [(3, .int (x3 + 1)), (0, .ref (ad 0)), (1, .int x1), (2, .int x2_S13)]) C dX7_hangs_95 3 rfl rfl (by decide) rfl ?_
    refine g_goto (pc := 98) (tgt := 13) C dX7_hangs_98 (by decide) ?_
    refine g_sub [1, 2, 3, 0] rfl (hrec _ _ _)
set_option maxRecDepth 20000 in
theorem c_X7_hangs {l : Launch} {D : va_G} {ad : Nat → Nat} {cI cJ cZ : ClassId} {n : Nat} (hD : ∀ sz S, va_D (Adr ad n sz) (wM ad cI cJ cZ S)) {x1 : Int32} {S : St} {z : Int32 × St} (hf : m_X7_hangs x1 S = some z) : CtI l yX7_hangs cX7_hangs 6 (some .boolean) ({ frames := 1, cells := 0, slots := 0, locals := 23 } : Room) D (wM ad cI cJ cZ) (tyX cI cJ cZ) ad n [.ref (ad 0), .int x1] S z := by
  refine CtI.of hf (by decide +kernel) (Nat.le_of_ble_eq_true rfl) hD (fun p e s m args below meth c C hr => ?_)
  refine g_sub [0, 1] (lv2 := [(0, .ref (ad 0)), (1, .int x1)]) rfl ?_
  unfold m_X7_hangs
  refine g_iload_n (pc := 0) C dX7_hangs_0 (i := 1) rfl 1 rfl ?_
  refine g_if_ne (pc := 1) (tgt := 6) C dX7_hangs_1 (by decide) ?_ ?_
  · refine g_iload_n (pc := 6) C dX7_hangs_6 (i := 1) rfl 1 rfl ?_
    refine g_iload_n (pc := 7) C dX7_hangs_7 (i := 1) rfl 1 rfl ?_
    refine g_ineg (pc := 8) C dX7_hangs_8 ?_
    refine g_iand (pc := 9) C dX7_hangs_9 ?_
    refine g_nmi fun y1 => ?_
    refine g_istore_n (pc := 10) (i := 2) (lv2 := [(2, .int y1), (0, .ref (ad 0)), (1, .int x1)]) C dX7_hangs_10 rfl (by decide) rfl ?_
    refine g_iconst (pc := 11) (v := 0) C dX7_hangs_11 (by decide) ?_
    refine g_istore_n (pc := 12) (i := 3) (lv2 := [(3, .int (0 : Int32)), (2, .int y1), (0, .ref (ad 0)), (1, .int x1)]) C dX7_hangs_12 rfl (by decide) rfl ?_
    refine g_sub [2, 3, 1, 0] (lv2 := [(0, .ref (ad 0)), (1, .int x1), (2, .int y1), (3, .int (0 : Int32))]) rfl ?_
    refine g_it2 (pc := 13) (u_X7_hangs_13 C hr _ _ fun x2_S14 S14 => ?_) _ _ _ _
    refine g_iload_n (pc := 101) C dX7_hangs_101 (i := 2) rfl 1 rfl ?_
    refine g_iload_n (pc := 102) C dX7_hangs_102 (i := 1) rfl 0 rfl ?_
    refine g_icmp_ne (pc := 103) (tgt := 110) C dX7_hangs_103 (by decide) ?_ ?_
    · refine g_iconst (pc := 110) (v := 0) C dX7_hangs_110 (by decide) ?_
      exact g_zretq (pc := 111) C hr (Or.inl rfl) dX7_hangs_111
    · refine g_iconst (pc := 106) (v := 1) C dX7_hangs_106 (by decide) ?_
      refine g_goto (pc := 107) (tgt := 111) C dX7_hangs_107 (by decide) ?_
      exact g_zretq (pc := 111) C hr (Or.inr rfl) dX7_hangs_111
  · refine g_iconst (pc := 4) (v := 0) C dX7_hangs_4 (by decide) ?_
    exact g_zretq (pc := 5) C hr (Or.inl rfl) dX7_hangs_5
noncomputable def m_X7_all (S : St) : Option (Int32 × St) :=
some ((((1 : Int32) <<< ((gI S 41 0) &&& 31)) - (1 : Int32)), S)
set_option maxRecDepth 20000 in
theorem c_X7_all {l : Launch} {D : va_G} {ad : Nat → Nat} {cI cJ cZ : ClassId} {n : Nat} (hD : ∀ sz S, va_D (Adr ad n sz) (wM ad cI cJ cZ S)) {S : St} {z : Int32 × St} (hf : m_X7_all S = some z) : CtI l yX7_all cX7_all 1 (some .int) ({ frames := 0, cells := 0, slots := 0, locals := 0 } : Room) D (wM ad cI cJ cZ) (tyX cI cJ cZ) ad n [.ref (ad 0)] S z := by
  refine CtI.of hf (by decide +kernel) (Nat.le_of_ble_eq_true rfl) hD (fun p e s m args below meth c C hr => ?_)
  refine g_sub [0] (lv2 := [(0, .ref (ad 0))]) rfl ?_
  unfold m_X7_all
  refine g_iconst (pc := 0) (v := 1) C dX7_all_0 (by decide) ?_
  refine g_aload_n (pc := 1) C dX7_all_1 (i := 0) rfl 0 rfl ?_
  refine gt_X7_cells (pc := 2) C q875 dX7_all_2 ?_
  refine g_ishl (pc := 5) C dX7_all_5 ?_
  refine g_iconst (pc := 6) (v := 1) C dX7_all_6 (by decide) ?_
  refine g_isub (pc := 7) C dX7_all_7 ?_
  exact g_iret (pc := 8) C hr dX7_all_8
noncomputable def m_X7_isParting (x1 : Int32) (S : St) : Option (Int32 × St) :=
bnd (m_X7_isIn x1 (0 : Int32) S) fun r2 S1 =>
if r2 = 0 then (
some ((0 : Int32), S1))
else
bnd (m_X7_hangs x1 S1) fun r4 S3 =>
if r4 = 0 then (
some ((0 : Int32), S3))
else
bnd (m_X7_all S3) fun r6 S5 =>
bnd (m_X7_hangs (r6 &&& (x1 ^^^ (-1 : Int32))) S5) fun r8 S7 =>
if r8 = 0 then (
some ((0 : Int32), S7))
else
some ((1 : Int32), S7)
set_option maxRecDepth 20000 in
theorem c_X7_isParting {l : Launch} {D : va_G} {ad : Nat → Nat} {cI cJ cZ : ClassId} {n : Nat} (hD : ∀ sz S, va_D (Adr ad n sz) (wM ad cI cJ cZ S)) {x1 : Int32} {S : St} {z : Int32 × St} (hf : m_X7_isParting x1 S = some z) : CtI l yX7_isParting cX7_isParting 2 (some .boolean) ({ frames := 2, cells := 0, slots := 0, locals := 48 } : Room) D (wM ad cI cJ cZ) (tyX cI cJ cZ) ad n [.ref (ad 0), .int x1] S z := by
  refine CtI.of hf (by decide +kernel) (Nat.le_of_ble_eq_true rfl) hD (fun p e s m args below meth c C hr => ?_)
  refine g_sub [0, 1] (lv2 := [(0, .ref (ad 0)), (1, .int x1)]) rfl ?_
  unfold m_X7_isParting
  refine g_iload_n (pc := 0) C dX7_isParting_0 (i := 1) rfl 1 rfl ?_
  refine g_iconst (pc := 1) (v := 0) C dX7_isParting_1 (by decide) ?_
  refine g_callSi (pc := 2) (As := [.int _, .int _]) C q1090 mw_X7_isIn (fun _ hz => c_X7_isIn C.2.2.2.2.2.2.2.1 hz) ⟨Nat.le_of_ble_eq_true rfl, Nat.le_of_ble_eq_true rfl⟩ rfl rfl rfl (Nat.le_of_ble_eq_true rfl) dX7_isParting_2 fun r2 S1 => ?_
  refine g_if_eq (pc := 5) (tgt := 35) C dX7_isParting_5 (by decide) ?_ ?_
  · refine g_iconst (pc := 35) (v := 0) C dX7_isParting_35 (by decide) ?_
    exact g_zretq (pc := 36) C hr (Or.inl rfl) dX7_isParting_36
  · refine g_aload_n (pc := 8) C dX7_isParting_8 (i := 0) rfl 0 rfl ?_
    refine g_iload_n (pc := 9) C dX7_isParting_9 (i := 1) rfl 1 rfl ?_
    refine g_callVi (pc := 10) (As := [.int _]) C q1097 mw_X7_hangs (fun _ hz => c_X7_hangs C.2.2.2.2.2.2.2.1 hz) ⟨Nat.le_of_ble_eq_true rfl, Nat.le_of_ble_eq_true rfl⟩ rfl rfl 0 rfl rfl rfl (Nat.le_of_ble_eq_true rfl) dX7_isParting_10 fun r4 S3 => ?_
    refine g_if_eq (pc := 13) (tgt := 35) C dX7_isParting_13 (by decide) ?_ ?_
    · refine g_iconst (pc := 35) (v := 0) C dX7_isParting_35 (by decide) ?_
      exact g_zretq (pc := 36) C hr (Or.inl rfl) dX7_isParting_36
    · refine g_aload_n (pc := 16) C dX7_isParting_16 (i := 0) rfl 0 rfl ?_
      refine g_aload_n (pc := 17) C dX7_isParting_17 (i := 0) rfl 0 rfl ?_
      refine g_callVi (pc := 18) (As := []) C q1082 mw_X7_all (fun _ hz => c_X7_all C.2.2.2.2.2.2.2.1 hz) ⟨Nat.le_of_ble_eq_true rfl, Nat.le_of_ble_eq_true rfl⟩ rfl rfl 0 rfl rfl rfl (Nat.le_of_ble_eq_true rfl) dX7_isParting_18 fun r6 S5 => ?_
      refine g_iload_n (pc := 21) C dX7_isParting_21 (i := 1) rfl 1 rfl ?_
      refine g_iconst (pc := 22) (v := -1) C dX7_isParting_22 (by decide) ?_
      refine g_ixor (pc := 23) C dX7_isParting_23 ?_
      refine g_iand (pc := 24) C dX7_isParting_24 ?_
      refine g_callVi (pc := 25) (As := [.int _]) C q1097 mw_X7_hangs (fun _ hz => c_X7_hangs C.2.2.2.2.2.2.2.1 hz) ⟨Nat.le_of_ble_eq_true rfl, Nat.le_of_ble_eq_true rfl⟩ rfl rfl 0 rfl rfl rfl (Nat.le_of_ble_eq_true rfl) dX7_isParting_25 fun r8 S7 => ?_
      refine g_if_eq (pc := 28) (tgt := 35) C dX7_isParting_28 (by decide) ?_ ?_
      · refine g_iconst (pc := 35) (v := 0) C dX7_isParting_35 (by decide) ?_
        exact g_zretq (pc := 36) C hr (Or.inl rfl) dX7_isParting_36
      · refine g_iconst (pc := 31) (v := 1) C dX7_isParting_31 (by decide) ?_
        refine g_goto (pc := 32) (tgt := 36) C dX7_isParting_32 (by decide) ?_
        exact g_zretq (pc := 36) C hr (Or.inr rfl) dX7_isParting_36
noncomputable def b_X7_differs_4 (x1 : Int32) (k : Int32 → St → Option (Int32 × St)) (rec : Int32 → Int32 → St → Option (Int32 × St)) (x2 : Int32) (x3 : Int32) (S : St) : Option (Int32 × St) :=
if x3 < (gI S 41 0) then (
bnd (m_X7_isIn x1 x3 S) fun r2 S1 =>
if r2 = 0 then (
chk x3 12 <|
nm ((x2 + (-(gI S1 10 (ix x3))))) fun y3 =>
rec y3 (x3 + 1) S1)
else
chk x3 12 <|
nm ((x2 + (gI S1 10 (ix x3)))) fun y4 =>
rec y4 (x3 + 1) S1)
else
k x2 S
noncomputable def m_X7_differs (x1 : Int32) (S : St) : Option (Int32 × St) :=
it2 (b_X7_differs_4 x1 (fun x2_S5 S5 =>
if x2_S5 < 0 then (
some ((-x2_S5), S5))
else
some (x2_S5, S5))) 5000 (0 : Int32) (0 : Int32) S
set_option maxRecDepth 20000 in
theorem u_X7_differs_4 (C : Cx p s m args meth c cX7_differs 4 RX7 D (tyX cI cJ cZ) ad n (wM ad cI cJ cZ)) (hr : meth.sig.returnType = (some .int)) (x1 : Int32) (k : Int32 → St → Option (Int32 × St)) (hk : ∀ (x2 : Int32) (S : St), GM p l e ({ frames := 1, cells := 0, slots := 0, locals := 21 } : Room) s m args below meth c D ad n (wM ad cI cJ cZ) 4 (QI D (wM ad cI cJ cZ) ad n args s below) (k x2 S) S 45 [(2, .int x2)] []) (rec : Int32 → Int32 → St → Option (Int32 × St)) (hrec : ∀ (x2 : Int32) (x3 : Int32) (S : St), GM p l e ({ frames := 1, cells := 0, slots := 0, locals := 21 } : Room) s m args below meth c D ad n (wM ad cI cJ cZ) 4 (QI D (wM ad cI cJ cZ) ad n args s below) (rec x2 x3 S) S 4 [(0, .ref (ad 0)), (1, .int x1), (2, .int x2), (3, .int x3)] []) (x2 : Int32) (x3 : Int32) (S : St) : GM p l e ({ frames := 1, cells := 0, slots := 0, locals := 21 } : Room) s m args below meth c D ad n (wM ad cI cJ cZ) 4 (QI D (wM ad cI cJ cZ) ad n args s below) (b_X7_differs_4 x1 k rec x2 x3 S) S 4 [(0, .ref (ad 0)), (1, .int x1), (2, .int x2), (3, .int x3)] [] := by
  unfold b_X7_differs_4
  refine g_iload_n (pc := 4) C dX7_differs_4 (i := 3) rfl 3 rfl ?_
  refine g_aload_n (pc := 5) C dX7_differs_5 (i := 0) rfl 0 rfl ?_
  refine gt_X7_cells (pc := 6) C q875 dX7_differs_6 ?_
  refine g_icmp_ge (pc := 9) (tgt := 45) C dX7_differs_9 (by decide) ?_ ?_
  · refine g_sub [2] rfl (hk _ _)
  · refine g_iload_n (pc := 12) C dX7_differs_12 (i := 2) rfl 2 rfl ?_
    refine g_iload_n (pc := 13) C dX7_differs_13 (i := 1) rfl 1 rfl ?_
    refine g_iload_n (pc := 14) C dX7_differs_14 (i := 3) rfl 3 rfl ?_
    refine g_callSi (pc := 15) (As := [.int _, .int _]) C q1090 mw_X7_isIn (fun _ hz => c_X7_isIn C.2.2.2.2.2.2.2.1 hz) ⟨Nat.le_of_ble_eq_true rfl, Nat.le_of_ble_eq_true rfl⟩ rfl rfl rfl (Nat.le_of_ble_eq_true rfl) dX7_differs_15 fun r2 S1 => ?_
    refine g_if_eq (pc := 18) (tgt := 30) C dX7_differs_18 (by decide) ?_ ?_
    · refine g_aload_n (pc := 30) C dX7_differs_30 (i := 0) rfl 0 rfl ?_
      refine gt_X7_years (pc := 31) C q886 dX7_differs_31 ?_
      refine g_iload_n (pc := 34) C dX7_differs_34 (i := 3) rfl 3 rfl ?_
      refine al_X7_years (pc := 35) C dX7_differs_35 ?_
      refine g_ineg (pc := 36) C dX7_differs_36 ?_
      refine g_iadd (pc := 37) C dX7_differs_37 ?_
      refine g_nmi fun y3 => ?_
      refine g_istore_n (pc := 38) (i := 2) (lv2 := [(2, .int y3), (0, .ref (ad 0)), (1, .int x1), (3, .int x3)]) C dX7_differs_38 rfl (by decide) rfl ?_
      refine g_iinc (pc := 39) (v := (x3 + 1)) (lv2 := [(3, .int (x3 + 1)), (2, .int y3), (0, .ref (ad 0)), (1, .int x1)]) C dX7_differs_39 3 rfl rfl (by decide) rfl ?_
      refine g_goto (pc := 42) (tgt := 4) C dX7_differs_42 (by decide) ?_
      refine g_sub [2, 3, 1, 0] rfl (hrec _ _ _)
    · refine g_aload_n (pc := 21) C dX7_differs_21 (i := 0) rfl 0 rfl ?_
      refine gt_X7_years (pc := 22) C q886 dX7_differs_22 ?_
      refine g_iload_n (pc := 25) C dX7_differs_25 (i := 3) rfl 3 rfl ?_
      refine al_X7_years (pc := 26) C dX7_differs_26 ?_
      refine g_goto (pc := 27) (tgt := 37) C dX7_differs_27 (by decide) ?_
      refine g_iadd (pc := 37) C dX7_differs_37 ?_
      refine g_nmi fun y4 => ?_
      refine g_istore_n (pc := 38) (i := 2) (lv2 := [(2, .int y4), (0, .ref (ad 0)), (1, .int x1), (3, .int x3)]) C dX7_differs_38 rfl (by decide) rfl ?_
      refine g_iinc (pc := 39) (v := (x3 + 1)) (lv2 := [(3, .int (x3 + 1)), (2, .int y4), (0, .ref (ad 0)), (1, .int x1)]) C dX7_differs_39 3 rfl rfl (by decide) rfl ?_
      refine g_goto (pc := 42) (tgt := 4) C dX7_differs_42 (by decide) ?_
      refine g_sub [2, 3, 1, 0] rfl (hrec _ _ _)
set_option maxRecDepth 20000 in
theorem c_X7_differs {l : Launch} {D : va_G} {ad : Nat → Nat} {cI cJ cZ : ClassId} {n : Nat} (hD : ∀ sz S, va_D (Adr ad n sz) (wM ad cI cJ cZ S)) {x1 : Int32} {S : St} {z : Int32 × St} (hf : m_X7_differs x1 S = some z) : CtI l yX7_differs cX7_differs 4 (some .int) ({ frames := 1, cells := 0, slots := 0, locals := 21 } : Room) D (wM ad cI cJ cZ) (tyX cI cJ cZ) ad n [.ref (ad 0), .int x1] S z := by
  refine CtI.of hf (by decide +kernel) (Nat.le_of_ble_eq_true rfl) hD (fun p e s m args below meth c C hr => ?_)
  refine g_sub [0, 1] (lv2 := [(0, .ref (ad 0)), (1, .int x1)]) rfl ?_
  unfold m_X7_differs
  refine g_iconst (pc := 0) (v := 0) C dX7_differs_0 (by decide) ?_
  refine g_istore_n (pc := 1) (i := 2) (lv2 := [(2, .int (0 : Int32)), (0, .ref (ad 0)), (1, .int x1)]) C dX7_differs_1 rfl (by decide) rfl ?_
  refine g_iconst (pc := 2) (v := 0) C dX7_differs_2 (by decide) ?_
  refine g_istore_n (pc := 3) (i := 3) (lv2 := [(3, .int (0 : Int32)), (2, .int (0 : Int32)), (0, .ref (ad 0)), (1, .int x1)]) C dX7_differs_3 rfl (by decide) rfl ?_
  refine g_sub [2, 3, 1, 0] (lv2 := [(0, .ref (ad 0)), (1, .int x1), (2, .int (0 : Int32)), (3, .int (0 : Int32))]) rfl ?_
  refine g_it2 (pc := 4) (u_X7_differs_4 C hr _ _ fun x2_S5 S5 => ?_) _ _ _ _
  refine g_iload_n (pc := 45) C dX7_differs_45 (i := 2) rfl 0 rfl ?_
  refine g_if_ge (pc := 46) (tgt := 54) C dX7_differs_46 (by decide) ?_ ?_
  · refine g_iload_n (pc := 54) C dX7_differs_54 (i := 2) rfl 0 rfl ?_
    exact g_iret (pc := 55) C hr dX7_differs_55
  · refine g_iload_n (pc := 49) C dX7_differs_49 (i := 2) rfl 0 rfl ?_
    refine g_ineg (pc := 50) C dX7_differs_50 ?_
    refine g_goto (pc := 51) (tgt := 55) C dX7_differs_51 (by decide) ?_
    exact g_iret (pc := 55) C hr dX7_differs_55
end MM
