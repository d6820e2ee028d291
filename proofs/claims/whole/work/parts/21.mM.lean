section MM
variable {p : Program} {l : Launch} {e : Env} {s : State} {m : MethodId} {args : Array Value} {below : List Frame} {meth : Method} {c : Code} {D : va_G} {ad : Nat → Nat} {n : Nat} {cI cJ cZ : ClassId}
noncomputable def m_X7_isChange (x1 : Int32) (x2 : Int32) (S : St) : Option (Int32 × St) :=
chk x1 12 <|
chk x2 12 <|
if (gI S 4 (ix x1)) = (gI S 4 (ix x2)) then (
some ((0 : Int32), S))
else
bnd (m_X7_isRather x1 x2 S) fun r2 S1 =>
if r2 = 0 then (
some ((0 : Int32), S1))
else
bnd (m_X7_isRather x2 x1 S1) fun r4 S3 =>
if r4 = 0 then (
some ((0 : Int32), S3))
else
some ((1 : Int32), S3)
set_option maxRecDepth 20000 in
theorem c_X7_isChange {l : Launch} {D : va_G} {ad : Nat → Nat} {cI cJ cZ : ClassId} {n : Nat} (hD : ∀ sz S, va_D (Adr ad n sz) (wM ad cI cJ cZ S)) {x1 : Int32} {x2 : Int32} {S : St} {z : Int32 × St} (hf : m_X7_isChange x1 x2 S = some z) : CtI l yX7_isChange cX7_isChange 3 (some .boolean) ({ frames := 5, cells := 0, slots := 0, locals := 118 } : Room) D (wM ad cI cJ cZ) (tyX cI cJ cZ) ad n [.ref (ad 0), .int x1, .int x2] S z := by
  refine CtI.of hf (by decide +kernel) (Nat.le_of_ble_eq_true rfl) hD (fun p e s m args below meth c C hr => ?_)
  refine g_sub [0, 1, 2] (lv2 := [(0, .ref (ad 0)), (1, .int x1), (2, .int x2)]) rfl ?_
  unfold m_X7_isChange
  refine g_aload_n (pc := 0) C dX7_isChange_0 (i := 0) rfl 0 rfl ?_
  refine gt_X7_owners (pc := 1) C q880 dX7_isChange_1 ?_
  refine g_iload_n (pc := 4) C dX7_isChange_4 (i := 1) rfl 1 rfl ?_
  refine al_X7_owners (pc := 5) C dX7_isChange_5 ?_
  refine g_aload_n (pc := 6) C dX7_isChange_6 (i := 0) rfl 0 rfl ?_
  refine gt_X7_owners (pc := 7) C q880 dX7_isChange_7 ?_
  refine g_iload_n (pc := 10) C dX7_isChange_10 (i := 2) rfl 2 rfl ?_
  refine al_X7_owners (pc := 11) C dX7_isChange_11 ?_
  refine g_icmp_eq (pc := 12) (tgt := 37) C dX7_isChange_12 (by decide) ?_ ?_
  · refine g_iconst (pc := 37) (v := 0) C dX7_isChange_37 (by decide) ?_
    exact g_zretq (pc := 38) C hr (Or.inl rfl) dX7_isChange_38
  · refine g_aload_n (pc := 15) C dX7_isChange_15 (i := 0) rfl 0 rfl ?_
    refine g_iload_n (pc := 16) C dX7_isChange_16 (i := 1) rfl 1 rfl ?_
    refine g_iload_n (pc := 17) C dX7_isChange_17 (i := 2) rfl 2 rfl ?_
    refine g_callVi (pc := 18) (As := [.int _, .int _]) C q1151 mw_X7_isRather (fun _ hz => c_X7_isRather C.2.2.2.2.2.2.2.1 hz) ⟨Nat.le_of_ble_eq_true rfl, Nat.le_of_ble_eq_true rfl⟩ rfl rfl 0 rfl rfl rfl (Nat.le_of_ble_eq_true rfl) dX7_isChange_18 fun r2 S1 => ?_
    refine g_if_eq (pc := 21) (tgt := 37) C dX7_isChange_21 (by decide) ?_ ?_
    · refine g_iconst (pc := 37) (v := 0) C dX7_isChange_37 (by decide) ?_
      exact g_zretq (pc := 38) C hr (Or.inl rfl) dX7_isChange_38
    · refine g_aload_n (pc := 24) C dX7_isChange_24 (i := 0) rfl 0 rfl ?_
      refine g_iload_n (pc := 25) C dX7_isChange_25 (i := 2) rfl 2 rfl ?_
      refine g_iload_n (pc := 26) C dX7_isChange_26 (i := 1) rfl 1 rfl ?_
      refine g_callVi (pc := 27) (As := [.int _, .int _]) C q1151 mw_X7_isRather (fun _ hz => c_X7_isRather C.2.2.2.2.2.2.2.1 hz) ⟨Nat.le_of_ble_eq_true rfl, Nat.le_of_ble_eq_true rfl⟩ rfl rfl 0 rfl rfl rfl (Nat.le_of_ble_eq_true rfl) dX7_isChange_27 fun r4 S3 => ?_
      refine g_if_eq (pc := 30) (tgt := 37) C dX7_isChange_30 (by decide) ?_ ?_
      · refine g_iconst (pc := 37) (v := 0) C dX7_isChange_37 (by decide) ?_
        exact g_zretq (pc := 38) C hr (Or.inl rfl) dX7_isChange_38
      · refine g_iconst (pc := 33) (v := 1) C dX7_isChange_33 (by decide) ?_
        refine g_goto (pc := 34) (tgt := 38) C dX7_isChange_34 (by decide) ?_
        exact g_zretq (pc := 38) C hr (Or.inr rfl) dX7_isChange_38
noncomputable def m_X7_change (x1 : Int32) (x2 : Int32) (S : St) : Option (Int32 × St) :=
bnd (m_X7_isCell x1 S) fun r2 S1 =>
if r2 = 0 then (
some ((-2 : Int32), S1))
else
bnd (m_X7_isCell x2 S1) fun r4 S3 =>
if r4 = 0 then (
some ((-2 : Int32), S3))
else
if x1 = x2 then (
some ((-2 : Int32), S3))
else
bnd (m_X7_isChange x1 x2 S3) fun r6 S5 =>
if r6 = 0 then (
some ((0 : Int32), S5))
else
some ((1 : Int32), S5)
set_option maxRecDepth 20000 in
theorem c_X7_change {l : Launch} {D : va_G} {ad : Nat → Nat} {cI cJ cZ : ClassId} {n : Nat} (hD : ∀ sz S, va_D (Adr ad n sz) (wM ad cI cJ cZ S)) {x1 : Int32} {x2 : Int32} {S : St} {z : Int32 × St} (hf : m_X7_change x1 x2 S = some z) : CtI l yX7_change cX7_change 3 (some .int) ({ frames := 6, cells := 0, slots := 0, locals := 140 } : Room) D (wM ad cI cJ cZ) (tyX cI cJ cZ) ad n [.ref (ad 0), .int x1, .int x2] S z := by
  refine CtI.of hf (by decide +kernel) (Nat.le_of_ble_eq_true rfl) hD (fun p e s m args below meth c C hr => ?_)
  refine g_sub [0, 1, 2] (lv2 := [(0, .ref (ad 0)), (1, .int x1), (2, .int x2)]) rfl ?_
  unfold m_X7_change
  refine g_aload_n (pc := 0) C dX7_change_0 (i := 0) rfl 0 rfl ?_
  refine g_iload_n (pc := 1) C dX7_change_1 (i := 1) rfl 1 rfl ?_
  refine g_callVi (pc := 2) (As := [.int _]) C q983 mw_X7_isCell (fun _ hz => c_X7_isCell C.2.2.2.2.2.2.2.1 hz) ⟨Nat.le_of_ble_eq_true rfl, Nat.le_of_ble_eq_true rfl⟩ rfl rfl 0 rfl rfl rfl (Nat.le_of_ble_eq_true rfl) dX7_change_2 fun r2 S1 => ?_
  refine g_if_eq (pc := 5) (tgt := 21) C dX7_change_5 (by decide) ?_ ?_
  · refine g_bipush (pc := 21) (v := -2) C dX7_change_21 (by decide) ?_
    refine g_goto (pc := 23) (tgt := 40) C dX7_change_23 (by decide) ?_
    exact g_iret (pc := 40) C hr dX7_change_40
  · refine g_aload_n (pc := 8) C dX7_change_8 (i := 0) rfl 0 rfl ?_
    refine g_iload_n (pc := 9) C dX7_change_9 (i := 2) rfl 2 rfl ?_
    refine g_callVi (pc := 10) (As := [.int _]) C q983 mw_X7_isCell (fun _ hz => c_X7_isCell C.2.2.2.2.2.2.2.1 hz) ⟨Nat.le_of_ble_eq_true rfl, Nat.le_of_ble_eq_true rfl⟩ rfl rfl 0 rfl rfl rfl (Nat.le_of_ble_eq_true rfl) dX7_change_10 fun r4 S3 => ?_
    refine g_if_eq (pc := 13) (tgt := 21) C dX7_change_13 (by decide) ?_ ?_
    · refine g_bipush (pc := 21) (v := -2) C dX7_change_21 (by decide) ?_
      refine g_goto (pc := 23) (tgt := 40) C dX7_change_23 (by decide) ?_
      exact g_iret (pc := 40) C hr dX7_change_40
    · refine g_iload_n (pc := 16) C dX7_change_16 (i := 1) rfl 1 rfl ?_
      refine g_iload_n (pc := 17) C dX7_change_17 (i := 2) rfl 2 rfl ?_
      refine g_icmp_ne (pc := 18) (tgt := 26) C dX7_change_18 (by decide) ?_ ?_
      · refine g_aload_n (pc := 26) C dX7_change_26 (i := 0) rfl 0 rfl ?_
        refine g_iload_n (pc := 27) C dX7_change_27 (i := 1) rfl 1 rfl ?_
        refine g_iload_n (pc := 28) C dX7_change_28 (i := 2) rfl 2 rfl ?_
        refine g_callVi (pc := 29) (As := [.int _, .int _]) C q1147 mw_X7_isChange (fun _ hz => c_X7_isChange C.2.2.2.2.2.2.2.1 hz) ⟨Nat.le_of_ble_eq_true rfl, Nat.le_of_ble_eq_true rfl⟩ rfl rfl 0 rfl rfl rfl (Nat.le_of_ble_eq_true rfl) dX7_change_29 fun r6 S5 => ?_
        refine g_if_eq (pc := 32) (tgt := 39) C dX7_change_32 (by decide) ?_ ?_
        · refine g_iconst (pc := 39) (v := 0) C dX7_change_39 (by decide) ?_
          exact g_iret (pc := 40) C hr dX7_change_40
        · refine g_iconst (pc := 35) (v := 1) C dX7_change_35 (by decide) ?_
          refine g_goto (pc := 36) (tgt := 40) C dX7_change_36 (by decide) ?_
          exact g_iret (pc := 40) C hr dX7_change_40
      · refine g_bipush (pc := 21) (v := -2) C dX7_change_21 (by decide) ?_
        refine g_goto (pc := 23) (tgt := 40) C dX7_change_23 (by decide) ?_
        exact g_iret (pc := 40) C hr dX7_change_40
noncomputable def b_X7_changesOf_25 (x1 : Int32) (x3 : Int32) (k : St → Option (Int32 × St)) (rec : Int32 → St → Option (Int32 × St)) (x4 : Int32) (S : St) : Option (Int32 × St) :=
if x4 < (gI S 41 0) then (
chk x3 12 <|
chk x3 12 <|
chk x4 12 <|
if (gI S 4 (ix x3)) = (gI S 4 (ix x4)) then (
chk x3 12 <|
nm (sI S 11 (ix x3) ((gI S 11 (ix x3)) ||| (0 : Int32))) fun S4 =>
rec (x4 + 1) S4)
else
bnd (m_X7_isRather x3 x4 S) fun r6 S5 =>
if r6 = 0 then (
chk x3 12 <|
nm (sI S5 11 (ix x3) ((gI S 11 (ix x3)) ||| (0 : Int32))) fun S7 =>
rec (x4 + 1) S7)
else
chk x3 12 <|
nm (sI S5 11 (ix x3) ((gI S 11 (ix x3)) ||| ((1 : Int32) <<< (x4 &&& 31)))) fun S8 =>
rec (x4 + 1) S8)
else
k S
noncomputable def b_X7_changesOf_7 (x1 : Int32) (k : St → Option (Int32 × St)) (rec : Int32 → St → Option (Int32 × St)) (x3 : Int32) (S : St) : Option (Int32 × St) :=
if x3 < (gI S 41 0) then (
chk x3 12 <|
nm (sI S 11 (ix x3) (0 : Int32)) fun S3 =>
it1 (b_X7_changesOf_25 x1 x3 (fun S9 =>
rec (x3 + 1) S9)) 5000 (0 : Int32) S3)
else
k S
noncomputable def b_X7_changesOf_166 (x1 : Int32) (x3 : Int32) (x5 : Int32) (x6 : Int32) (k : Int32 → St → Option (Int32 × St)) (rec : Int32 → Int32 → St → Option (Int32 × St)) (x4 : Int32) (x7 : Int32) (S : St) : Option (Int32 × St) :=
if x7 < (gI S 41 0) then (
if x5 < x6 then (
if x5 < x7 then (
chk x5 12 <|
bnd (m_X7_isIn (gI S 11 (ix x5)) x6 S) fun r17 S16 =>
if r17 = 0 then (
if (0 : Int32) = 0 then (
nm ((x4 + (0 : Int32))) fun y18 =>
rec y18 (x7 + 1) S16)
else
nm ((x4 + (1 : Int32))) fun y19 =>
rec y19 (x7 + 1) S16)
else
chk x6 12 <|
bnd (m_X7_isIn (gI S16 11 (ix x6)) x7 S16) fun r21 S20 =>
if r21 = 0 then (
if (0 : Int32) = 0 then (
nm ((x4 + (0 : Int32))) fun y22 =>
rec y22 (x7 + 1) S20)
else
nm ((x4 + (1 : Int32))) fun y23 =>
rec y23 (x7 + 1) S20)
else
chk x7 12 <|
bnd (m_X7_isIn (gI S20 11 (ix x7)) x5 S20) fun r25 S24 =>
if r25 = 0 then (
if (0 : Int32) = 0 then (
nm ((x4 + (0 : Int32))) fun y26 =>
rec y26 (x7 + 1) S24)
else
nm ((x4 + (1 : Int32))) fun y27 =>
rec y27 (x7 + 1) S24)
else
if (1 : Int32) = 0 then (
nm ((x4 + (0 : Int32))) fun y28 =>
rec y28 (x7 + 1) S24)
else
nm ((x4 + (1 : Int32))) fun y29 =>
rec y29 (x7 + 1) S24)
else
if (0 : Int32) = 0 then (
nm ((x4 + (0 : Int32))) fun y14 =>
rec y14 (x7 + 1) S)
else
nm ((x4 + (1 : Int32))) fun y15 =>
rec y15 (x7 + 1) S)
else
if (0 : Int32) = 0 then (
nm ((x4 + (0 : Int32))) fun y12 =>
rec y12 (x7 + 1) S)
else
nm ((x4 + (1 : Int32))) fun y13 =>
rec y13 (x7 + 1) S)
else
k x4 S
noncomputable def b_X7_changesOf_109 (x1 : Int32) (x5 : Int32) (k : Int32 → Int32 → St → Option (Int32 × St)) (rec : Int32 → Int32 → Int32 → St → Option (Int32 × St)) (x3 : Int32) (x4 : Int32) (x6 : Int32) (S : St) : Option (Int32 × St) :=
if x6 < (gI S 41 0) then (
if x6 < x5 then (
chk x5 12 <|
bnd (m_X7_isIn (gI S 11 (ix x5)) x6 S) fun r32 S31 =>
if r32 = 0 then (
nm ((x3 + (0 : Int32))) fun y33 =>
it2 (b_X7_changesOf_166 x1 y33 x5 x6 (fun x4_S34 S34 =>
rec y33 x4_S34 (x6 + 1) S34)) 5000 x4 (0 : Int32) S31)
else
chk x6 12 <|
bnd (m_X7_isIn (gI S31 11 (ix x6)) x5 S31) fun r36 S35 =>
if r36 = 0 then (
nm ((x3 + (0 : Int32))) fun y37 =>
it2 (b_X7_changesOf_166 x1 y37 x5 x6 (fun x4_S38 S38 =>
rec y37 x4_S38 (x6 + 1) S38)) 5000 x4 (0 : Int32) S35)
else
nm ((x3 + (1 : Int32))) fun y39 =>
it2 (b_X7_changesOf_166 x1 y39 x5 x6 (fun x4_S40 S40 =>
rec y39 x4_S40 (x6 + 1) S40)) 5000 x4 (0 : Int32) S35)
else
nm ((x3 + (0 : Int32))) fun y11 =>
it2 (b_X7_changesOf_166 x1 y11 x5 x6 (fun x4_S30 S30 =>
rec y11 x4_S30 (x6 + 1) S30)) 5000 x4 (0 : Int32) S)
else
k x3 x4 S
noncomputable def b_X7_changesOf_97 (x1 : Int32) (k : Int32 → Int32 → St → Option (Int32 × St)) (rec : Int32 → Int32 → Int32 → St → Option (Int32 × St)) (x3 : Int32) (x4 : Int32) (x5 : Int32) (S : St) : Option (Int32 × St) :=
if x5 < (gI S 41 0) then (
it3 (b_X7_changesOf_109 x1 x5 (fun x3_S41 x4_S41 S41 =>
rec x3_S41 x4_S41 (x5 + 1) S41)) 5000 x3 x4 (0 : Int32) S)
else
k x3 x4 S
noncomputable def m_X7_changesOf (x1 : Int32) (S : St) : Option (Int32 × St) :=
bnd (m_X7_faultNow S) fun r2 S1 =>
it1 (b_X7_changesOf_7 x1 (fun S10 =>
it3 (b_X7_changesOf_97 x1 (fun x3_S42 x4_S42 S42 =>
if x1 = 0 then (
some (x3_S42, S42))
else
some (x4_S42, S42))) 5000 (0 : Int32) (0 : Int32) (0 : Int32) S10)) 5000 (0 : Int32) S1
set_option maxRecDepth 20000 in
theorem u_X7_changesOf_25 (C : Cx p s m args meth c cX7_changesOf 9 RX7 D (tyX cI cJ cZ) ad n (wM ad cI cJ cZ)) (hr : meth.sig.returnType = (some .int)) (x1 : Int32) (x3 : Int32) (k : St → Option (Int32 × St)) (hk : ∀ (S : St), GM p l e ({ frames := 5, cells := 0, slots := 0, locals := 118 } : Room) s m args below meth c D ad n (wM ad cI cJ cZ) 9 (QI D (wM ad cI cJ cZ) ad n args s below) (k S) S 83 [(0, .ref (ad 0)), (1, .int x1), (3, .int x3)] []) (rec : Int32 → St → Option (Int32 × St)) (hrec : ∀ (x4 : Int32) (S : St), GM p l e ({ frames := 5, cells := 0, slots := 0, locals := 118 } : Room) s m args below meth c D ad n (wM ad cI cJ cZ) 9 (QI D (wM ad cI cJ cZ) ad n args s below) (rec x4 S) S 25 [(0, .ref (ad 0)), (1, .int x1), (3, .int x3), (4, .int x4)] []) (x4 : Int32) (S : St) : GM p l e ({ frames := 5, cells := 0, slots := 0, locals := 118 } : Room) s m args below meth c D ad n (wM ad cI cJ cZ) 9 (QI D (wM ad cI cJ cZ) ad n args s below) (b_X7_changesOf_25 x1 x3 k rec x4 S) S 25 [(0, .ref (ad 0)), (1, .int x1), (3, .int x3), (4, .int x4)] [] := by
  unfold b_X7_changesOf_25
  refine g_iload (pc := 25) C dX7_changesOf_25 3 rfl ?_
  refine g_aload_n (pc := 27) C dX7_changesOf_27 (i := 0) rfl 0 rfl ?_
  refine gt_X7_cells (pc := 28) C q875 dX7_changesOf_28 ?_
  refine g_icmp_ge (pc := 31) (tgt := 83) C dX7_changesOf_31 (by decide) ?_ ?_
  · refine g_sub [0, 1, 2] rfl (hk _)
  · refine g_aload_n (pc := 34) C dX7_changesOf_34 (i := 0) rfl 0 rfl ?_
    refine gt_X7_rathers (pc := 35) C q887 dX7_changesOf_35 ?_
    refine g_iload_n (pc := 38) C dX7_changesOf_38 (i := 3) rfl 2 rfl ?_
    refine g_dup2 (pc := 39) C dX7_changesOf_39 rfl rfl ?_
    refine al_X7_rathers (pc := 40) C dX7_changesOf_40 ?_
    refine g_aload_n (pc := 41) C dX7_changesOf_41 (i := 0) rfl 0 rfl ?_
    refine gt_X7_owners (pc := 42) C q880 dX7_changesOf_42 ?_
    refine g_iload_n (pc := 45) C dX7_changesOf_45 (i := 3) rfl 2 rfl ?_
    refine al_X7_owners (pc := 46) C dX7_changesOf_46 ?_
    refine g_aload_n (pc := 47) C dX7_changesOf_47 (i := 0) rfl 0 rfl ?_
    refine gt_X7_owners (pc := 48) C q880 dX7_changesOf_48 ?_
    refine g_iload (pc := 51) C dX7_changesOf_51 3 rfl ?_
    refine al_X7_owners (pc := 53) C dX7_changesOf_53 ?_
    refine g_icmp_eq (pc := 54) (tgt := 74) C dX7_changesOf_54 (by decide) ?_ ?_
    · refine g_iconst (pc := 74) (v := 0) C dX7_changesOf_74 (by decide) ?_
      refine g_ior (pc := 75) C dX7_changesOf_75 ?_
      refine as_X7_rathers (pc := 76) C dX7_changesOf_76 fun S4 => ?_
      refine g_iinc (pc := 77) (v := (x4 + 1)) (lv2 := [(4, .int (x4 + 1)), (0, .ref (ad 0)), (1, .int x1), (3, .int x3)]) C dX7_changesOf_77 3 rfl rfl (by decide) rfl ?_
      refine g_goto (pc := 80) (tgt := 25) C dX7_changesOf_80 (by decide) ?_
      refine g_sub [1, 2, 3, 0] rfl (hrec _ _)
    · refine g_aload_n (pc := 57) C dX7_changesOf_57 (i := 0) rfl 0 rfl ?_
      refine g_iload_n (pc := 58) C dX7_changesOf_58 (i := 3) rfl 2 rfl ?_
      refine g_iload (pc := 59) C dX7_changesOf_59 3 rfl ?_
      refine g_callVi (pc := 61) (As := [.int _, .int _]) C q1151 mw_X7_isRather (fun _ hz => c_X7_isRather C.2.2.2.2.2.2.2.1 hz) ⟨Nat.le_of_ble_eq_true rfl, Nat.le_of_ble_eq_true rfl⟩ rfl rfl 0 rfl rfl rfl (Nat.le_of_ble_eq_true rfl) dX7_changesOf_61 fun r6 S5 => ?_
      refine g_if_eq (pc := 64) (tgt := 74) C dX7_changesOf_64 (by decide) ?_ ?_
      · refine g_iconst (pc := 74) (v := 0) C dX7_changesOf_74 (by decide) ?_
        refine g_ior (pc := 75) C dX7_changesOf_75 ?_
        refine as_X7_rathers (pc := 76) C dX7_changesOf_76 fun S7 => ?_
        refine g_iinc (pc := 77) (v := (x4 + 1)) (lv2 := [(4, .int (x4 + 1)), (0, .ref (ad 0)), (1, .int x1), (3, .int x3)]) C dX7_changesOf_77 3 rfl rfl (by decide) rfl ?_
        refine g_goto (pc := 80) (tgt := 25) C dX7_changesOf_80 (by decide) ?_
        refine g_sub [1, 2, 3, 0] rfl (hrec _ _)
      · refine g_iconst (pc := 67) (v := 1) C dX7_changesOf_67 (by decide) ?_
        refine g_iload (pc := 68) C dX7_changesOf_68 3 rfl ?_
        refine g_ishl (pc := 70) C dX7_changesOf_70 ?_
        refine g_goto (pc := 71) (tgt := 75) C dX7_changesOf_71 (by decide) ?_
        refine g_ior (pc := 75) C dX7_changesOf_75 ?_
        refine as_X7_rathers (pc := 76) C dX7_changesOf_76 fun S8 => ?_
        refine g_iinc (pc := 77) (v := (x4 + 1)) (lv2 := [(4, .int (x4 + 1)), (0, .ref (ad 0)), (1, .int x1), (3, .int x3)]) C dX7_changesOf_77 3 rfl rfl (by decide) rfl ?_
        refine g_goto (pc := 80) (tgt := 25) C dX7_changesOf_80 (by decide) ?_
        refine g_sub [1, 2, 3, 0] rfl (hrec _ _)
set_option maxRecDepth 20000 in
theorem u_X7_changesOf_7 (C : Cx p s m args meth c cX7_changesOf 9 RX7 D (tyX cI cJ cZ) ad n (wM ad cI cJ cZ)) (hr : meth.sig.returnType = (some .int)) (x1 : Int32) (k : St → Option (Int32 × St)) (hk : ∀ (S : St), GM p l e ({ frames := 5, cells := 0, slots := 0, locals := 118 } : Room) s m args below meth c D ad n (wM ad cI cJ cZ) 9 (QI D (wM ad cI cJ cZ) ad n args s below) (k S) S 89 [(0, .ref (ad 0)), (1, .int x1)] []) (rec : Int32 → St → Option (Int32 × St)) (hrec : ∀ (x3 : Int32) (S : St), GM p l e ({ frames := 5, cells := 0, slots := 0, locals := 118 } : Room) s m args below meth c D ad n (wM ad cI cJ cZ) 9 (QI D (wM ad cI cJ cZ) ad n args s below) (rec x3 S) S 7 [(0, .ref (ad 0)), (1, .int x1), (3, .int x3)] []) (x3 : Int32) (S : St) : GM p l e ({ frames := 5, cells := 0, slots := 0, locals := 118 } : Room) s m args below meth c D ad n (wM ad cI cJ cZ) 9 (QI D (wM ad cI cJ cZ) ad n args s below) (b_X7_changesOf_7 x1 k rec x3 S) S 7 [(0, .ref (ad 0)), (1, .int x1), (3, .int x3)] [] := by
  unfold b_X7_changesOf_7
  refine g_iload_n (pc := 7) C dX7_changesOf_7 (i := 3) rfl 2 rfl ?_
  refine g_aload_n (pc := 8) C dX7_changesOf_8 (i := 0) rfl 0 rfl ?_
  refine gt_X7_cells (pc := 9) C q875 dX7_changesOf_9 ?_
  refine g_icmp_ge (pc := 12) (tgt := 89) C dX7_changesOf_12 (by decide) ?_ ?_
  · refine g_sub [0, 1] rfl (hk _)
  · refine g_aload_n (pc := 15) C dX7_changesOf_15 (i := 0) rfl 0 rfl ?_
    refine gt_X7_rathers (pc := 16) C q887 dX7_changesOf_16 ?_
    refine g_iload_n (pc := 19) C dX7_changesOf_19 (i := 3) rfl 2 rfl ?_
    refine g_iconst (pc := 20) (v := 0) C dX7_changesOf_20 (by decide) ?_
    refine as_X7_rathers (pc := 21) C dX7_changesOf_21 fun S3 => ?_
    refine g_iconst (pc := 22) (v := 0) C dX7_changesOf_22 (by decide) ?_
    refine g_istore (pc := 23) (i := 4) (j := 0) (lv2 := [(4, .int (0 : Int32)), (0, .ref (ad 0)), (1, .int x1), (3, .int x3)]) C dX7_changesOf_23 (by decide) rfl ?_
    refine g_sub [1, 2, 3, 0] (lv2 := [(0, .ref (ad 0)), (1, .int x1), (3, .int x3), (4, .int (0 : Int32))]) rfl ?_
    refine g_it1 (pc := 25) (u_X7_changesOf_25 C hr _ _ _ fun S9 => ?_) _ _ _
    refine g_iinc (pc := 83) (v := (x3 + 1)) (lv2 := [(3, .int (x3 + 1)), (0, .ref (ad 0)), (1, .int x1)]) C dX7_changesOf_83 2 rfl rfl (by decide) rfl ?_
    refine g_goto (pc := 86) (tgt := 7) C dX7_changesOf_86 (by decide) ?_
    refine g_sub [1, 2, 0] rfl (hrec _ _)
set_option maxRecDepth 20000 in
theorem u_X7_changesOf_166 (C : Cx p s m args meth c cX7_changesOf 9 RX7 D (tyX cI cJ cZ) ad n (wM ad cI cJ cZ)) (hr : meth.sig.returnType = (some .int)) (x1 : Int32) (x3 : Int32) (x5 : Int32) (x6 : Int32) (k : Int32 → St → Option (Int32 × St)) (hk : ∀ (x4 : Int32) (S : St), GM p l e ({ frames := 5, cells := 0, slots := 0, locals := 118 } : Room) s m args below meth c D ad n (wM ad cI cJ cZ) 9 (QI D (wM ad cI cJ cZ) ad n args s below) (k x4 S) S 262 [(0, .ref (ad 0)), (1, .int x1), (3, .int x3), (4, .int x4), (5, .int x5), (6, .int x6)] []) (rec : Int32 → Int32 → St → Option (Int32 × St)) (hrec : ∀ (x4 : Int32) (x7 : Int32) (S : St), GM p l e ({ frames := 5, cells := 0, slots := 0, locals := 118 } : Room) s m args below meth c D ad n (wM ad cI cJ cZ) 9 (QI D (wM ad cI cJ cZ) ad n args s below) (rec x4 x7 S) S 166 [(0, .ref (ad 0)), (1, .int x1), (3, .int x3), (4, .int x4), (5, .int x5), (6, .int x6), (7, .int x7)] []) (x4 : Int32) (x7 : Int32) (S : St) : GM p l e ({ frames := 5, cells := 0, slots := 0, locals := 118 } : Room) s m args below meth c D ad n (wM ad cI cJ cZ) 9 (QI D (wM ad cI cJ cZ) ad n args s below) (b_X7_changesOf_166 x1 x3 x5 x6 k rec x4 x7 S) S 166 [(0, .ref (ad 0)), (1, .int x1), (3, .int x3), (4, .int x4), (5, .int x5), (6, .int x6), (7, .int x7)] [] := by
  unfold b_X7_changesOf_166
  refine g_iload (pc := 166) C dX7_changesOf_166 6 rfl ?_
  refine g_aload_n (pc := 168) C dX7_changesOf_168 (i := 0) rfl 0 rfl ?_
  refine gt_X7_cells (pc := 169) C q875 dX7_changesOf_169 ?_
  refine g_icmp_ge (pc := 172) (tgt := 262) C dX7_changesOf_172 (by decide) ?_ ?_
  · refine g_sub [0, 1, 2, 3, 4, 5] rfl (hk _ _)
  · refine g_iload (pc := 175) C dX7_changesOf_175 4 rfl ?_
    refine g_iload (pc := 177) C dX7_changesOf_177 5 rfl ?_
    refine g_icmp_ge (pc := 179) (tgt := 238) C dX7_changesOf_179 (by decide) ?_ ?_
    · refine g_iconst (pc := 238) (v := 0) C dX7_changesOf_238 (by decide) ?_
      refine g_istore (pc := 239) (i := 8) (j := 0) (lv2 := [(8, .int (0 : Int32)), (0, .ref (ad 0)), (1, .int x1), (3, .int x3), (4, .int x4), (5, .int x5), (6, .int x6), (7, .int x7)]) C dX7_changesOf_239 (by decide) rfl ?_
      refine g_iload (pc := 241) C dX7_changesOf_241 4 rfl ?_
      refine g_iload (pc := 243) C dX7_changesOf_243 0 rfl ?_
      refine g_if_eq (pc := 245) (tgt := 252) C dX7_changesOf_245 (by decide) ?_ ?_
      · refine g_iconst (pc := 252) (v := 0) C dX7_changesOf_252 (by decide) ?_
        refine g_iadd (pc := 253) C dX7_changesOf_253 ?_
        refine g_nmi fun y12 => ?_
        refine g_istore (pc := 254) (i := 4) (j := 0) (lv2 := [(4, .int y12), (8, .int (0 : Int32)), (0, .ref (ad 0)), (1, .int x1), (3, .int x3), (5, .int x5), (6, .int x6), (7, .int x7)]) C dX7_changesOf_254 (by decide) rfl ?_
        refine g_iinc (pc := 256) (v := (x7 + 1)) (lv2 := [(7, .int (x7 + 1)), (4, .int y12), (8, .int (0 : Int32)), (0, .ref (ad 0)), (1, .int x1), (3, .int x3), (5, .int x5), (6, .int x6)]) C dX7_changesOf_256 7 rfl rfl (by decide) rfl ?_
        refine g_goto (pc := 259) (tgt := 166) C dX7_changesOf_259 (by decide) ?_
        refine g_sub [3, 4, 5, 1, 6, 7, 0] rfl (hrec _ _ _)
      · refine g_iconst (pc := 248) (v := 1) C dX7_changesOf_248 (by decide) ?_
        refine g_goto (pc := 249) (tgt := 253) C dX7_changesOf_249 (by decide) ?_
        refine g_iadd (pc := 253) C dX7_changesOf_253 ?_
        refine g_nmi fun y13 => ?_
        refine g_istore (pc := 254) (i := 4) (j := 0) (lv2 := [(4, .int y13), (8, .int (0 : Int32)), (0, .ref (ad 0)), (1, .int x1), (3, .int x3), (5, .int x5), (6, .int x6), (7, .int x7)]) C dX7_changesOf_254 (by decide) rfl ?_
        refine g_iinc (pc := 256) (v := (x7 + 1)) (lv2 := [(7, .int (x7 + 1)), (4, .int y13), (8, .int (0 : Int32)), (0, .ref (ad 0)), (1, .int x1), (3, .int x3), (5, .int x5), (6, .int x6)]) C dX7_changesOf_256 7 rfl rfl (by decide) rfl ?_
        refine g_goto (pc := 259) (tgt := 166) C dX7_changesOf_259 (by decide) ?_
        refine g_sub [3, 4, 5, 1, 6, 7, 0] rfl (hrec _ _ _)
    · refine g_iload (pc := 182) C dX7_changesOf_182 4 rfl ?_
      refine g_iload (pc := 184) C dX7_changesOf_184 6 rfl ?_
      refine g_icmp_ge (pc := 186) (tgt := 238) C dX7_changesOf_186 (by decide) ?_ ?_
      · refine g_iconst (pc := 238) (v := 0) C dX7_changesOf_238 (by decide) ?_
        refine g_istore (pc := 239) (i := 8) (j := 0) (lv2 := [(8, .int (0 : Int32)), (0, .ref (ad 0)), (1, .int x1), (3, .int x3), (4, .int x4), (5, .int x5), (6, .int x6), (7, .int x7)]) C dX7_changesOf_239 (by decide) rfl ?_
        refine g_iload (pc := 241) C dX7_changesOf_241 4 rfl ?_
        refine g_iload (pc := 243) C dX7_changesOf_243 0 rfl ?_
        refine g_if_eq (pc := 245) (tgt := 252) C dX7_changesOf_245 (by decide) ?_ ?_
        · refine g_iconst (pc := 252) (v := 0) C dX7_changesOf_252 (by decide) ?_
          refine g_iadd (pc := 253) C dX7_changesOf_253 ?_
          refine g_nmi fun y14 => ?_
          refine g_istore (pc := 254) (i := 4) (j := 0) (lv2 := [(4, .int y14), (8, .int (0 : Int32)), (0, .ref (ad 0)), (1, .int x1), (3, .int x3), (5, .int x5), (6, .int x6), (7, .int x7)]) C dX7_changesOf_254 (by decide) rfl ?_
          refine g_iinc (pc := 256) (v := (x7 + 1)) (lv2 := [(7, .int (x7 + 1)), (4, .int y14), (8, .int (0 : Int32)), (0, .ref (ad 0)), (1, .int x1), (3, .int x3), (5, .int x5), (6, .int x6)]) C dX7_changesOf_256 7 rfl rfl (by decide) rfl ?_
          refine g_goto (pc := 259) (tgt := 166) C dX7_changesOf_259 (by decide) ?_
          refine g_sub [3, 4, 5, 1, 6, 7, 0] rfl (hrec _ _ _)
        · refine g_iconst (pc := 248) (v := 1) C dX7_changesOf_248 (by decide) ?_
          refine g_goto (pc := 249) (tgt := 253) C dX7_changesOf_249 (by decide) ?_
          refine g_iadd (pc := 253) C dX7_changesOf_253 ?_
          refine g_nmi fun y15 => ?_
          refine g_istore (pc := 254) (i := 4) (j := 0) (lv2 := [(4, .int y15), (8, .int (0 : Int32)), (0, .ref (ad 0)), (1, .int x1), (3, .int x3), (5, .int x5), (6, .int x6), (7, .int x7)]) C dX7_changesOf_254 (by decide) rfl ?_
          refine g_iinc (pc := 256) (v := (x7 + 1)) (lv2 := [(7, .int (x7 + 1)), (4, .int y15), (8, .int (0 : Int32)), (0, .ref (ad 0)), (1, .int x1), (3, .int x3), (5, .int x5), (6, .int x6)]) C dX7_changesOf_256 7 rfl rfl (by decide) rfl ?_
          refine g_goto (pc := 259) (tgt := 166) C dX7_changesOf_259 (by decide) ?_
          refine g_sub [3, 4, 5, 1, 6, 7, 0] rfl (hrec _ _ _)
      · refine g_aload_n (pc := 189) C dX7_changesOf_189 (i := 0) rfl 0 rfl ?_
        refine gt_X7_rathers (pc := 190) C q887 dX7_changesOf_190 ?_
        refine g_iload (pc := 193) C dX7_changesOf_193 4 rfl ?_
        refine al_X7_rathers (pc := 195) C dX7_changesOf_195 ?_
        refine g_iload (pc := 196) C dX7_changesOf_196 5 rfl ?_
        refine g_callSi (pc := 198) (As := [.int _, .int _]) C q1090 mw_X7_isIn (fun _ hz => c_X7_isIn C.2.2.2.2.2.2.2.1 hz) ⟨Nat.le_of_ble_eq_true rfl, Nat.le_of_ble_eq_true rfl⟩ rfl rfl rfl (Nat.le_of_ble_eq_true rfl) dX7_changesOf_198 fun r17 S16 => ?_
        refine g_if_eq (pc := 201) (tgt := 238) C dX7_changesOf_201 (by decide) ?_ ?_
        · refine g_iconst (pc := 238) (v := 0) C dX7_changesOf_238 (by decide) ?_
          refine g_istore (pc := 239) (i := 8) (j := 0) (lv2 := [(8, .int (0 : Int32)), (0, .ref (ad 0)), (1, .int x1), (3, .int x3), (4, .int x4), (5, .int x5), (6, .int x6), (7, .int x7)]) C dX7_changesOf_239 (by decide) rfl ?_
          refine g_iload (pc := 241) C dX7_changesOf_241 4 rfl ?_
          refine g_iload (pc := 243) C dX7_changesOf_243 0 rfl ?_
          refine g_if_eq (pc := 245) (tgt := 252) C dX7_changesOf_245 (by decide) ?_ ?_
          · refine g_iconst (pc := 252) (v := 0) C dX7_changesOf_252 (by decide) ?_
            refine g_iadd (pc := 253) C dX7_changesOf_253 ?_
            refine g_nmi fun y18 => ?_
            refine g_istore (pc := 254) (i := 4) (j := 0) (lv2 := [(4, .int y18), (8, .int (0 : Int32)), (0, .ref (ad 0)), (1, .int x1), (3, .int x3), (5, .int x5), (6, .int x6), (7, .int x7)]) C dX7_changesOf_254 (by decide) rfl ?_
            refine g_iinc (pc := 256) (v := (x7 + 1)) (lv2 := [(7, .int (x7 + 1)), (4, .int y18), (8, .int (0 : Int32)), (0, .ref (ad 0)), (1, .int x1), (3, .int x3), (5, .int x5), (6, .int x6)]) C dX7_changesOf_256 7 rfl rfl (by decide) rfl ?_
            refine g_goto (pc := 259) (tgt := 166) C dX7_changesOf_259 (by decide) ?_
            refine g_sub [3, 4, 5, 1, 6, 7, 0] rfl (hrec _ _ _)
          · refine g_iconst (pc := 248) (v := 1) C dX7_changesOf_248 (by decide) ?_
            refine g_goto (pc := 249) (tgt := 253) C dX7_changesOf_249 (by decide) ?_
            refine g_iadd (pc := 253) C dX7_changesOf_253 ?_
            refine g_nmi fun y19 => ?_
            refine g_istore (pc := 254) (i := 4) (j := 0) (lv2 := [(4, .int y19), (8, .int (0 : Int32)), (0, .ref (ad 0)), (1, .int x1), (3, .int x3), (5, .int x5), (6, .int x6), (7, .int x7)]) C dX7_changesOf_254 (by decide) rfl ?_
            refine g_iinc (pc := 256) (v := (x7 + 1)) (lv2 := [(7, .int (x7 + 1)), (4, .int y19), (8, .int (0 : Int32)), (0, .ref (ad 0)), (1, .int x1), (3, .int x3), (5, .int x5), (6, .int x6)]) C dX7_changesOf_256 7 rfl rfl (by decide) rfl ?_
            refine g_goto (pc := 259) (tgt := 166) C dX7_changesOf_259 (by decide) ?_
            refine g_sub [3, 4, 5, 1, 6, 7, 0] rfl (hrec _ _ _)
        · refine g_aload_n (pc := 204) C dX7_changesOf_204 (i := 0) rfl 0 rfl ?_
          refine gt_X7_rathers (pc := 205) C q887 dX7_changesOf_205 ?_
          refine g_iload (pc := 208) C dX7_changesOf_208 5 rfl ?_
          refine al_X7_rathers (pc := 210) C dX7_changesOf_210 ?_
          refine g_iload (pc := 211) C dX7_changesOf_211 6 rfl ?_
          refine g_callSi (pc := 213) (As := [.int _, .int _]) C q1090 mw_X7_isIn (fun _ hz => c_X7_isIn C.2.2.2.2.2.2.2.1 hz) ⟨Nat.le_of_ble_eq_true rfl, Nat.le_of_ble_eq_true rfl⟩ rfl rfl rfl (Nat.le_of_ble_eq_true rfl) dX7_changesOf_213 fun r21 S20 => ?_
          refine g_if_eq (pc := 216) (tgt := 238) C dX7_changesOf_216 (by decide) ?_ ?_
          · refine g_iconst (pc := 238) (v := 0) C dX7_changesOf_238 (by decide) ?_
            refine g_istore (pc := 239) (i := 8) (j := 0) (lv2 := [(8, .int (0 : Int32)), (0, .ref (ad 0)), (1, .int x1), (3, .int x3), (4, .int x4), (5, .int x5), (6, .int x6), (7, .int x7)]) C dX7_changesOf_239 (by decide) rfl ?_
            refine g_iload (pc := 241) C dX7_changesOf_241 4 rfl ?_
            refine g_iload (pc := 243) C dX7_changesOf_243 0 rfl ?_
            refine g_if_eq (pc := 245) (tgt := 252) C dX7_changesOf_245 (by decide) ?_ ?_
            · refine g_iconst (pc := 252) (v := 0) C dX7_changesOf_252 (by decide) ?_
              refine g_iadd (pc := 253) C dX7_changesOf_253 ?_
              refine g_nmi fun y22 => ?_
              refine g_istore (pc := 254) (i := 4) (j := 0) (lv2 := [(4, .int y22), (8, .int (0 : Int32)), (0, .ref (ad 0)), (1, .int x1), (3, .int x3), (5, .int x5), (6, .int x6), (7, .int x7)]) C dX7_changesOf_254 (by decide) rfl ?_
              refine g_iinc (pc := 256) (v := (x7 + 1)) (lv2 := [(7, .int (x7 + 1)), (4, .int y22), (8, .int (0 : Int32)), (0, .ref (ad 0)), (1, .int x1), (3, .int x3), (5, .int x5), (6, .int x6)]) C dX7_changesOf_256 7 rfl rfl (by decide) rfl ?_
              refine g_goto (pc := 259) (tgt := 166) C dX7_changesOf_259 (by decide) ?_
              refine g_sub [3, 4, 5, 1, 6, 7, 0] rfl (hrec _ _ _)
            · refine g_iconst (pc := 248) (v := 1) C dX7_changesOf_248 (by decide) ?_
              refine g_goto (pc := 249) (tgt := 253) C dX7_changesOf_249 (by decide) ?_
              refine g_iadd (pc := 253) C dX7_changesOf_253 ?_
              refine g_nmi fun y23 => ?_
              refine g_istore (pc := 254) (i := 4) (j := 0) (lv2 := [(4, .int y23), (8, .int (0 : Int32)), (0, .ref (ad 0)), (1, .int x1), (3, .int x3), (5, .int x5), (6, .int x6), (7, .int x7)]) C dX7_changesOf_254 (by decide) rfl ?_
              refine g_iinc (pc := 256) (v := (x7 + 1)) (lv2 := [(7, .int (x7 + 1)), (4, .int y23), (8, .int (0 : Int32)), (0, .ref (ad 0)), (1, .int x1), (3, .int x3), (5, .int x5), (6, .int x6)]) C dX7_changesOf_256 7 rfl rfl (by decide) rfl ?_
              refine g_goto (pc := 259) (tgt := 166) C dX7_changesOf_259 (by decide) ?_
              refine g_sub [3, 4, 5, 1, 6, 7, 0] rfl (hrec _ _ _)
          · refine g_aload_n (pc := 219) C dX7_changesOf_219 (i := 0) rfl 0 rfl ?_
            refine gt_X7_rathers (pc := 220) C q887 dX7_changesOf_220 ?_
            refine g_iload (pc := 223) C dX7_changesOf_223 6 rfl ?_
            refine al_X7_rathers (pc := 225) C dX7_changesOf_225 ?_
            refine g_iload (pc := 226) C dX7_changesOf_226 4 rfl ?_
            refine g_callSi (pc := 228) (As := [.int _, .int _]) C q1090 mw_X7_isIn (fun _ hz => c_X7_isIn C.2.2.2.2.2.2.2.1 hz) ⟨Nat.le_of_ble_eq_true rfl, Nat.le_of_ble_eq_true rfl⟩ rfl rfl rfl (Nat.le_of_ble_eq_true rfl) dX7_changesOf_228 fun r25 S24 => ?_
            refine g_if_eq (pc := 231) (tgt := 238) C dX7_changesOf_231 (by decide) ?_ ?_
            · refine g_iconst (pc := 238) (v := 0) C dX7_changesOf_238 (by decide) ?_
              refine g_istore (pc := 239) (i := 8) (j := 0) (lv2 := [(8, .int (0 : Int32)), (0, .ref (ad 0)), (1, .int x1), (3, .int x3), (4, .int x4), (5, .int x5), (6, .int x6), (7, .int x7)]) C dX7_changesOf_239 (by decide) rfl ?_
              refine g_iload (pc := 241) C dX7_changesOf_241 4 rfl ?_
              refine g_iload (pc := 243) C dX7_changesOf_243 0 rfl ?_
              refine g_if_eq (pc := 245) (tgt := 252) C dX7_changesOf_245 (by decide) ?_ ?_
              · refine g_iconst (pc := 252) (v := 0) C dX7_changesOf_252 (by decide) ?_
                refine g_iadd (pc := 253) C dX7_changesOf_253 ?_
                refine g_nmi fun y26 => ?_
                refine g_istore (pc := 254) (i := 4) (j := 0) (lv2 := [(4, .int y26), (8, .int (0 : Int32)), (0, .ref (ad 0)), (1, .int x1), (3, .int x3), (5, .int x5), (6, .int x6), (7, .int x7)]) C dX7_changesOf_254 (by decide) rfl ?_
                refine g_iinc (pc := 256) (v := (x7 + 1)) (lv2 := [(7, .int (x7 + 1)), (4, .int y26), (8, .int (0 : Int32)), (0, .ref (ad 0)), (1, .int x1), (3, .int x3), (5, .int x5), (6, .int x6)]) C dX7_changesOf_256 7 rfl rfl (by decide) rfl ?_
                refine g_goto (pc := 259) (tgt := 166) C dX7_changesOf_259 (by decide) ?_
                refine g_sub [3, 4, 5, 1, 6, 7, 0] rfl (hrec _ _ _)
              · refine g_iconst (pc := 248) (v := 1) C dX7_changesOf_248 (by decide) ?_
                refine g_goto (pc := 249) (tgt := 253) C dX7_changesOf_249 (by decide) ?_
                refine g_iadd (pc := 253) C dX7_changesOf_253 ?_
                refine g_nmi fun y27 => ?_
                refine g_istore (pc := 254) (i := 4) (j := 0) (lv2 := [(4, .int y27), (8, .int (0 : Int32)), (0, .ref (ad 0)), (1, .int x1), (3, .int x3), (5, .int x5), (6, .int x6), (7, .int x7)]) C dX7_changesOf_254 (by decide) rfl ?_
                refine g_iinc (pc := 256) (v := (x7 + 1)) (lv2 := [(7, .int (x7 + 1)), (4, .int y27), (8, .int (0 : Int32)), (0, .ref (ad 0)), (1, .int x1), (3, .int x3), (5, .int x5), (6, .int x6)]) C dX7_changesOf_256 7 rfl rfl (by decide) rfl ?_
                refine g_goto (pc := 259) (tgt := 166) C dX7_changesOf_259 (by decide) ?_
                refine g_sub [3, 4, 5, 1, 6, 7, 0] rfl (hrec _ _ _)
            · refine g_iconst (pc := 234) (v := 1) C dX7_changesOf_234 (by decide) ?_
              refine g_goto (pc := 235) (tgt := 239) C dX7_changesOf_235 (by decide) ?_
              refine g_istore (pc := 239) (i := 8) (j := 0) (lv2 := [(8, .int (1 : Int32)), (0, .ref (ad 0)), (1, .int x1), (3, .int x3), (4, .int x4), (5, .int x5), (6, .int x6), (7, .int x7)]) C dX7_changesOf_239 (by decide) rfl ?_
              refine g_iload (pc := 241) C dX7_changesOf_241 4 rfl ?_
              refine g_iload (pc := 243) C dX7_changesOf_243 0 rfl ?_
              refine g_if_eq (pc := 245) (tgt := 252) C dX7_changesOf_245 (by decide) ?_ ?_
              · refine g_iconst (pc := 252) (v := 0) C dX7_changesOf_252 (by decide) ?_
                refine g_iadd (pc := 253) C dX7_changesOf_253 ?_
                refine g_nmi fun y28 => ?_
                refine g_istore (pc := 254) (i := 4) (j := 0) (lv2 := [(4, .int y28), (8, .int (1 : Int32)), (0, .ref (ad 0)), (1, .int x1), (3, .int x3), (5, .int x5), (6, .int x6), (7, .int x7)]) C dX7_changesOf_254 (by decide) rfl ?_
                refine g_iinc (pc := 256) (v := (x7 + 1)) (lv2 := [(7, .int (x7 + 1)), (4, .int y28), (8, .int (1 : Int32)), (0, .ref (ad 0)), (1, .int x1), (3, .int x3), (5, .int x5), (6, .int x6)]) C dX7_changesOf_256 7 rfl rfl (by decide) rfl ?_
                refine g_goto (pc := 259) (tgt := 166) C dX7_changesOf_259 (by decide) ?_
                refine g_sub [3, 4, 5, 1, 6, 7, 0] rfl (hrec _ _ _)
              · refine g_iconst (pc := 248) (v := 1) C dX7_changesOf_248 (by decide) ?_
                refine g_goto (pc := 249) (tgt := 253) C dX7_changesOf_249 (by decide) ?_
                refine g_iadd (pc := 253) C dX7_changesOf_253 ?_
                refine g_nmi fun y29 => ?_
                refine g_istore (pc := 254) (i := 4) (j := 0) (lv2 := [(4, .int y29), (8, .int (1 : Int32)), (0, .ref (ad 0)), (1, .int x1), (3, .int x3), (5, .int x5), (6, .int x6), (7, .int x7)]) C dX7_changesOf_254 (by decide) rfl ?_
                refine g_iinc (pc := 256) (v := (x7 + 1)) (lv2 := [(7, .int (x7 + 1)), (4, .int y29), (8, .int (1 : Int32)), (0, .ref (ad 0)), (1, .int x1), (3, .int x3), (5, .int x5), (6, .int x6)]) C dX7_changesOf_256 7 rfl rfl (by decide) rfl ?_
                refine g_goto (pc := 259) (tgt := 166) C dX7_changesOf_259 (by decide) ?_
                refine g_sub [3, 4, 5, 1, 6, 7, 0] rfl (hrec _ _ _)
set_option maxRecDepth 20000 in
theorem u_X7_changesOf_109 (C : Cx p s m args meth c cX7_changesOf 9 RX7 D (tyX cI cJ cZ) ad n (wM ad cI cJ cZ)) (hr : meth.sig.returnType = (some .int)) (x1 : Int32) (x5 : Int32) (k : Int32 → Int32 → St → Option (Int32 × St)) (hk : ∀ (x3 : Int32) (x4 : Int32) (S : St), GM p l e ({ frames := 5, cells := 0, slots := 0, locals := 118 } : Room) s m args below meth c D ad n (wM ad cI cJ cZ) 9 (QI D (wM ad cI cJ cZ) ad n args s below) (k x3 x4 S) S 268 [(0, .ref (ad 0)), (1, .int x1), (3, .int x3), (4, .int x4), (5, .int x5)] []) (rec : Int32 → Int32 → Int32 → St → Option (Int32 × St)) (hrec : ∀ (x3 : Int32) (x4 : Int32) (x6 : Int32) (S : St), GM p l e ({ frames := 5, cells := 0, slots := 0, locals := 118 } : Room) s m args below meth c D ad n (wM ad cI cJ cZ) 9 (QI D (wM ad cI cJ cZ) ad n args s below) (rec x3 x4 x6 S) S 109 [(0, .ref (ad 0)), (1, .int x1), (3, .int x3), (4, .int x4), (5, .int x5), (6, .int x6)] []) (x3 : Int32) (x4 : Int32) (x6 : Int32) (S : St) : GM p l e ({ frames := 5, cells := 0, slots := 0, locals := 118 } : Room) s m args below meth c D ad n (wM ad cI cJ cZ) 9 (QI D (wM ad cI cJ cZ) ad n args s below) (b_X7_changesOf_109 x1 x5 k rec x3 x4 x6 S) S 109 [(0, .ref (ad 0)), (1, .int x1), (3, .int x3), (4, .int x4), (5, .int x5), (6, .int x6)] [] := by
  unfold b_X7_changesOf_109
  refine g_iload (pc := 109) C dX7_changesOf_109 5 rfl ?_
  refine g_aload_n (pc := 111) C dX7_changesOf_111 (i := 0) rfl 0 rfl ?_
  refine gt_X7_cells (pc := 112) C q875 dX7_changesOf_112 ?_
  refine g_icmp_ge (pc := 115) (tgt := 268) C dX7_changesOf_115 (by decide) ?_ ?_
  · refine g_sub [0, 1, 2, 3, 4] rfl (hk _ _ _)
  · refine g_iload_n (pc := 118) C dX7_changesOf_118 (i := 3) rfl 2 rfl ?_
    refine g_iload (pc := 119) C dX7_changesOf_119 5 rfl ?_
    refine g_iload (pc := 121) C dX7_changesOf_121 4 rfl ?_
    refine g_icmp_ge (pc := 123) (tgt := 160) C dX7_changesOf_123 (by decide) ?_ ?_
    · refine g_iconst (pc := 160) (v := 0) C dX7_changesOf_160 (by decide) ?_
      refine g_iadd (pc := 161) C dX7_changesOf_161 ?_
      refine g_nmi fun y11 => ?_
      refine g_istore_n (pc := 162) (i := 3) (lv2 := [(3, .int y11), (0, .ref (ad 0)), (1, .int x1), (4, .int x4), (5, .int x5), (6, .int x6)]) C dX7_changesOf_162 rfl (by decide) rfl ?_
      refine g_iconst (pc := 163) (v := 0) C dX7_changesOf_163 (by decide) ?_
      refine g_istore (pc := 164) (i := 7) (j := 0) (lv2 := [(7, .int (0 : Int32)), (3, .int y11), (0, .ref (ad 0)), (1, .int x1), (4, .int x4), (5, .int x5), (6, .int x6)]) C dX7_changesOf_164 (by decide) rfl ?_
      refine g_sub [2, 3, 1, 4, 5, 6, 0] (lv2 := [(0, .ref (ad 0)), (1, .int x1), (3, .int y11), (4, .int x4), (5, .int x5), (6, .int x6), (7, .int (0 : Int32))]) rfl ?_
      refine g_it2 (pc := 166) (u_X7_changesOf_166 C hr _ _ _ _ _ fun x4_S30 S30 => ?_) _ _ _ _
      refine g_iinc (pc := 262) (v := (x6 + 1)) (lv2 := [(6, .int (x6 + 1)), (0, .ref (ad 0)), (1, .int x1), (3, .int y11), (4, .int x4_S30), (5, .int x5)]) C dX7_changesOf_262 5 rfl rfl (by decide) rfl ?_
      refine g_goto (pc := 265) (tgt := 109) C dX7_changesOf_265 (by decide) ?_
      refine g_sub [1, 2, 3, 4, 5, 0] rfl (hrec _ _ _ _)
    · refine g_aload_n (pc := 126) C dX7_changesOf_126 (i := 0) rfl 0 rfl ?_
      refine gt_X7_rathers (pc := 127) C q887 dX7_changesOf_127 ?_
      refine g_iload (pc := 130) C dX7_changesOf_130 4 rfl ?_
      refine al_X7_rathers (pc := 132) C dX7_changesOf_132 ?_
      refine g_iload (pc := 133) C dX7_changesOf_133 5 rfl ?_
      refine g_callSi (pc := 135) (As := [.int _, .int _]) C q1090 mw_X7_isIn (fun _ hz => c_X7_isIn C.2.2.2.2.2.2.2.1 hz) ⟨Nat.le_of_ble_eq_true rfl, Nat.le_of_ble_eq_true rfl⟩ rfl rfl rfl (Nat.le_of_ble_eq_true rfl) dX7_changesOf_135 fun r32 S31 => ?_
      refine g_if_eq (pc := 138) (tgt := 160) C dX7_changesOf_138 (by decide) ?_ ?_
      · refine g_iconst (pc := 160) (v := 0) C dX7_changesOf_160 (by decide) ?_
        refine g_iadd (pc := 161) C dX7_changesOf_161 ?_
        refine g_nmi fun y33 => ?_
        refine g_istore_n (pc := 162) (i := 3) (lv2 := [(3, .int y33), (0, .ref (ad 0)), (1, .int x1), (4, .int x4), (5, .int x5), (6, .int x6)]) C dX7_changesOf_162 rfl (by decide) rfl ?_
        refine g_iconst (pc := 163) (v := 0) C dX7_changesOf_163 (by decide) ?_
        refine g_istore (pc := 164) (i := 7) (j := 0) (lv2 := [(7, .int (0 : Int32)), (3, .int y33), (0, .ref (ad 0)), (1, .int x1), (4, .int x4), (5, .int x5), (6, .int x6)]) C dX7_changesOf_164 (by decide) rfl ?_
        refine g_sub [2, 3, 1, 4, 5, 6, 0] (lv2 := [(0, .ref (ad 0)), (1, .int x1), (3, .int y33), (4, .int x4), (5, .int x5), (6, .int x6), (7, .int (0 : Int32))]) rfl ?_
        refine g_it2 (pc := 166) (u_X7_changesOf_166 C hr _ _ _ _ _ fun x4_S34 S34 => ?_) _ _ _ _
        refine g_iinc (pc := 262) (v := (x6 + 1)) (lv2 := [(6, .int (x6 + 1)), (0, .ref (ad 0)), (1, .int x1), (3, .int y33), (4, .int x4_S34), (5, .int x5)]) C dX7_changesOf_262 5 rfl rfl (by decide) rfl ?_
        refine g_goto (pc := 265) (tgt := 109) C dX7_changesOf_265 (by decide) ?_
        refine g_sub [1, 2, 3, 4, 5, 0] rfl (hrec _ _ _ _)
      · refine g_aload_n (pc := 141) C dX7_changesOf_141 (i := 0) rfl 0 rfl ?_
        refine gt_X7_rathers (pc := 142) C q887 dX7_changesOf_142 ?_
        refine g_iload (pc := 145) C dX7_changesOf_145 5 rfl ?_
        refine al_X7_rathers (pc := 147) C dX7_changesOf_147 ?_
        refine g_iload (pc := 148) C dX7_changesOf_148 4 rfl ?_
        refine g_callSi (pc := 150) (As := [.int _, .int _]) C q1090 mw_X7_isIn (fun _ hz => c_X7_isIn C.2.2.2.2.2.2.2.1 hz) ⟨Nat.le_of_ble_eq_true rfl, Nat.le_of_ble_eq_true rfl⟩ rfl rfl rfl (Nat.le_of_ble_eq_true rfl) dX7_changesOf_150 fun r36 S35 => ?_
        refine g_if_eq (pc := 153) (tgt := 160) C dX7_changesOf_153 (by decide) ?_ ?_
        · refine g_iconst (pc := 160) (v := 0) C dX7_changesOf_160 (by decide) ?_
          refine g_iadd (pc := 161) C dX7_changesOf_161 ?_
          refine g_nmi fun y37 => ?_
          refine g_istore_n (pc := 162) (i := 3) (lv2 := [(3, .int y37), (0, .ref (ad 0)), (1, .int x1), (4, .int x4), (5, .int x5), (6, .int x6)]) C dX7_changesOf_162 rfl (by decide) rfl ?_
          refine g_iconst (pc := 163) (v := 0) C dX7_changesOf_163 (by decide) ?_
          refine g_istore (pc := 164) (i := 7) (j := 0) (lv2 := [(7, .int (0 : Int32)), (3, .int y37), (0, .ref (ad 0)), (1, .int x1), (4, .int x4), (5, .int x5), (6, .int x6)]) C dX7_changesOf_164 (by decide) rfl ?_
          refine g_sub [2, 3, 1, 4, 5, 6, 0] (lv2 := [(0, .ref (ad 0)), (1, .int x1), (3, .int y37), (4, .int x4), (5, .int x5), (6, .int x6), (7, .int (0 : Int32))]) rfl ?_
          refine g_it2 (pc := 166) (u_X7_changesOf_166 C hr _ _ _ _ _ fun x4_S38 S38 => ?_) _ _ _ _
          refine g_iinc (pc := 262) (v := (x6 + 1)) (lv2 := [(6, .int (x6 + 1)), (0, .ref (ad 0)), (1, .int x1), (3, .int y37), (4, .int x4_S38), (5, .int x5)]) C dX7_changesOf_262 5 rfl rfl (by decide) rfl ?_
          refine g_goto (pc := 265) (tgt := 109) C dX7_changesOf_265 (by decide) ?_
          refine g_sub [1, 2, 3, 4, 5, 0] rfl (hrec _ _ _ _)
        · refine g_iconst (pc := 156) (v := 1) C dX7_changesOf_156 (by decide) ?_
          refine g_goto (pc := 157) (tgt := 161) C dX7_changesOf_157 (by decide) ?_
          refine g_iadd (pc := 161) C dX7_changesOf_161 ?_
          refine g_nmi fun y39 => ?_
          refine g_istore_n (pc := 162) (i := 3) (lv2 := [(3, .int y39), (0, .ref (ad 0)), (1, .int x1), (4, .int x4), (5, .int x5), (6, .int x6)]) C dX7_changesOf_162 rfl (by decide) rfl ?_
          refine g_iconst (pc := 163) (v := 0) C dX7_changesOf_163 (by decide) ?_
          refine g_istore (pc := 164) (i := 7) (j := 0) (lv2 := [(7, .int (0 : Int32)), (3, .int y39), (0, .ref (ad 0)), (1, .int x1), (4, .int x4), (5, .int x5), (6, .int x6)]) C dX7_changesOf_164 (by decide) rfl ?_
          refine g_sub [2, 3, 1, 4, 5, 6, 0] (lv2 := [(0, .ref (ad 0)), (1, .int x1), (3, .int y39), (4, .int x4), (5, .int x5), (6, .int x6), (7, .int (0 : Int32))]) rfl ?_
          refine g_it2 (pc := 166) (u_X7_changesOf_166 C hr _ _ _ _ _ fun x4_S40 S40 => ?_) _ _ _ _
          refine g_iinc (pc := 262) (v := (x6 + 1)) (lv2 := [(6, .int (x6 + 1)), (0, .ref (ad 0)), (1, .int x1), (3, .int y39), (4, .int x4_S40), (5, .int x5)]) C dX7_changesOf_262 5 rfl rfl (by decide) rfl ?_
          refine g_goto (pc := 265) (tgt := 109) C dX7_changesOf_265 (by decide) ?_
          refine g_sub [1, 2, 3, 4, 5, 0] rfl (hrec _ _ _ _)
set_option maxRecDepth 20000 in
theorem u_X7_changesOf_97 (C : Cx p s m args meth c cX7_changesOf 9 RX7 D (tyX cI cJ cZ) ad n (wM ad cI cJ cZ)) (hr : meth.sig.returnType = (some .int)) (x1 : Int32) (k : Int32 → Int32 → St → Option (Int32 × St)) (hk : ∀ (x3 : Int32) (x4 : Int32) (S : St), GM p l e ({ frames := 5, cells := 0, slots := 0, locals := 118 } : Room) s m args below meth c D ad n (wM ad cI cJ cZ) 9 (QI D (wM ad cI cJ cZ) ad n args s below) (k x3 x4 S) S 274 [(1, .int x1), (3, .int x3), (4, .int x4)] []) (rec : Int32 → Int32 → Int32 → St → Option (Int32 × St)) (hrec : ∀ (x3 : Int32) (x4 : Int32) (x5 : Int32) (S : St), GM p l e ({ frames := 5, cells := 0, slots := 0, locals := 118 } : Room) s m args below meth c D ad n (wM ad cI cJ cZ) 9 (QI D (wM ad cI cJ cZ) ad n args s below) (rec x3 x4 x5 S) S 97 [(0, .ref (ad 0)), (1, .int x1), (3, .int x3), (4, .int x4), (5, .int x5)] []) (x3 : Int32) (x4 : Int32) (x5 : Int32) (S : St) : GM p l e ({ frames := 5, cells := 0, slots := 0, locals := 118 } : Room) s m args below meth c D ad n (wM ad cI cJ cZ) 9 (QI D (wM ad cI cJ cZ) ad n args s below) (b_X7_changesOf_97 x1 k rec x3 x4 x5 S) S 97 [(0, .ref (ad 0)), (1, .int x1), (3, .int x3), (4, .int x4), (5, .int x5)] [] := by
  unfold b_X7_changesOf_97
  refine g_iload (pc := 97) C dX7_changesOf_97 4 rfl ?_
  refine g_aload_n (pc := 99) C dX7_changesOf_99 (i := 0) rfl 0 rfl ?_
  refine gt_X7_cells (pc := 100) C q875 dX7_changesOf_100 ?_
  refine g_icmp_ge (pc := 103) (tgt := 274) C dX7_changesOf_103 (by decide) ?_ ?_
  · refine g_sub [1, 2, 3] rfl (hk _ _ _)
  · refine g_iconst (pc := 106) (v := 0) C dX7_changesOf_106 (by decide) ?_
    refine g_istore (pc := 107) (i := 6) (j := 0) (lv2 := [(6, .int (0 : Int32)), (0, .ref (ad 0)), (1, .int x1), (3, .int x3), (4, .int x4), (5, .int x5)]) C dX7_changesOf_107 (by decide) rfl ?_
    refine g_sub [1, 2, 3, 4, 5, 0] (lv2 := [(0, .ref (ad 0)), (1, .int x1), (3, .int x3), (4, .int x4), (5, .int x5), (6, .int (0 : Int32))]) rfl ?_
    refine g_it3 (pc := 109) (u_X7_changesOf_109 C hr _ _ _ fun x3_S41 x4_S41 S41 => ?_) _ _ _ _ _
    refine g_iinc (pc := 268) (v := (x5 + 1)) (lv2 := [(5, .int (x5 + 1)), (0, .ref (ad 0)), (1, .int x1), (3, .int x3_S41), (4, .int x4_S41)]) C dX7_changesOf_268 4 rfl rfl (by decide) rfl ?_
    refine g_goto (pc := 271) (tgt := 97) C dX7_changesOf_271 (by decide) ?_
    refine g_sub [1, 2, 3, 4, 0] rfl (hrec _ _ _ _)
set_option maxRecDepth 20000 in
theorem c_X7_changesOf {l : Launch} {D : va_G} {ad : Nat → Nat} {cI cJ cZ : ClassId} {n : Nat} (hD : ∀ sz S, va_D (Adr ad n sz) (wM ad cI cJ cZ S)) {x1 : Int32} {S : St} {z : Int32 × St} (hf : m_X7_changesOf x1 S = some z) : CtI l yX7_changesOf cX7_changesOf 9 (some .int) ({ frames := 5, cells := 0, slots := 0, locals := 118 } : Room) D (wM ad cI cJ cZ) (tyX cI cJ cZ) ad n [.ref (ad 0), .int x1] S z := by
  refine CtI.of hf (by decide +kernel) (Nat.le_of_ble_eq_true rfl) hD (fun p e s m args below meth c C hr => ?_)
  refine g_sub [0, 1] (lv2 := [(0, .ref (ad 0)), (1, .int x1)]) rfl ?_
  unfold m_X7_changesOf
  refine g_aload_n (pc := 0) C dX7_changesOf_0 (i := 0) rfl 0 rfl ?_
  refine g_callVi (pc := 1) (As := []) C q971 mw_X7_faultNow (fun _ hz => c_X7_faultNow C.2.2.2.2.2.2.2.1 hz) ⟨Nat.le_of_ble_eq_true rfl, Nat.le_of_ble_eq_true rfl⟩ rfl rfl 0 rfl rfl rfl (Nat.le_of_ble_eq_true rfl) dX7_changesOf_1 fun r2 S1 => ?_
  refine g_istore_n (pc := 4) (i := 2) (lv2 := [(2, .int r2), (0, .ref (ad 0)), (1, .int x1)]) C dX7_changesOf_4 rfl (by decide) rfl ?_
  refine g_iconst (pc := 5) (v := 0) C dX7_changesOf_5 (by decide) ?_
  refine g_istore_n (pc := 6) (i := 3) (lv2 := [(3, .int (0 : Int32)), (2, .int r2), (0, .ref (ad 0)), (1, .int x1)]) C dX7_changesOf_6 rfl (by decide) rfl ?_
  refine g_sub [2, 3, 0] (lv2 := [(0, .ref (ad 0)), (1, .int x1), (3, .int (0 : Int32))]) rfl ?_
  refine g_it1 (pc := 7) (u_X7_changesOf_7 C hr _ _ fun S10 => ?_) _ _ _
  refine g_iconst (pc := 89) (v := 0) C dX7_changesOf_89 (by decide) ?_
  refine g_istore_n (pc := 90) (i := 3) (lv2 := [(3, .int (0 : Int32)), (0, .ref (ad 0)), (1, .int x1)]) C dX7_changesOf_90 rfl (by decide) rfl ?_
  refine g_iconst (pc := 91) (v := 0) C dX7_changesOf_91 (by decide) ?_
  refine g_istore (pc := 92) (i := 4) (j := 0) (lv2 := [(4, .int (0 : Int32)), (3, .int (0 : Int32)), (0, .ref (ad 0)), (1, .int x1)]) C dX7_changesOf_92 (by decide) rfl ?_
  refine g_iconst (pc := 94) (v := 0) C dX7_changesOf_94 (by decide) ?_
  refine g_istore (pc := 95) (i := 5) (j := 0) (lv2 := [(5, .int (0 : Int32)), (4, .int (0 : Int32)), (3, .int (0 : Int32)), (0, .ref (ad 0)), (1, .int x1)]) C dX7_changesOf_95 (by decide) rfl ?_
  refine g_sub [3, 4, 2, 1, 0] (lv2 := [(0, .ref (ad 0)), (1, .int x1), (3, .int (0 : Int32)), (4, .int (0 : Int32)), (5, .int (0 : Int32))]) rfl ?_
  refine g_it3 (pc := 97) (u_X7_changesOf_97 C hr _ _ fun x3_S42 x4_S42 S42 => ?_) _ _ _ _ _
  refine g_iload_n (pc := 274) C dX7_changesOf_274 (i := 1) rfl 0 rfl ?_
  refine g_if_ne (pc := 275) (tgt := 282) C dX7_changesOf_275 (by decide) ?_ ?_
  · refine g_iload (pc := 282) C dX7_changesOf_282 2 rfl ?_
    exact g_iret (pc := 284) C hr dX7_changesOf_284
  · refine g_iload_n (pc := 278) C dX7_changesOf_278 (i := 3) rfl 1 rfl ?_
    refine g_goto (pc := 279) (tgt := 284) C dX7_changesOf_279 (by decide) ?_
    exact g_iret (pc := 284) C hr dX7_changesOf_284
noncomputable def m_X7_changes (x1 : Int32) (S : St) : Option (Int32 × St) :=
bnd (m_X7_in x1 (0 : Int32) (1 : Int32) S) fun r2 S1 =>
if r2 = 0 then (
some ((-2 : Int32), S1))
else
bnd (m_X7_changesOf x1 S1) fun r4 S3 =>
some (r4, S3)
set_option maxRecDepth 20000 in
theorem c_X7_changes {l : Launch} {D : va_G} {ad : Nat → Nat} {cI cJ cZ : ClassId} {n : Nat} (hD : ∀ sz S, va_D (Adr ad n sz) (wM ad cI cJ cZ S)) {x1 : Int32} {S : St} {z : Int32 × St} (hf : m_X7_changes x1 S = some z) : CtI l yX7_changes cX7_changes 2 (some .int) ({ frames := 6, cells := 0, slots := 0, locals := 146 } : Room) D (wM ad cI cJ cZ) (tyX cI cJ cZ) ad n [.ref (ad 0), .int x1] S z := by
  refine CtI.of hf (by decide +kernel) (Nat.le_of_ble_eq_true rfl) hD (fun p e s m args below meth c C hr => ?_)
  refine g_sub [0, 1] (lv2 := [(0, .ref (ad 0)), (1, .int x1)]) rfl ?_
  unfold m_X7_changes
  refine g_iload_n (pc := 0) C dX7_changes_0 (i := 1) rfl 1 rfl ?_
  refine g_iconst (pc := 1) (v := 0) C dX7_changes_1 (by decide) ?_
  refine g_iconst (pc := 2) (v := 1) C dX7_changes_2 (by decide) ?_
  refine g_callSi (pc := 3) (As := [.int _, .int _, .int _]) C q960 mw_X7_in (fun _ hz => c_X7_in C.2.2.2.2.2.2.2.1 hz) ⟨Nat.le_of_ble_eq_true rfl, Nat.le_of_ble_eq_true rfl⟩ rfl rfl rfl (Nat.le_of_ble_eq_true rfl) dX7_changes_3 fun r2 S1 => ?_
  refine g_if_eq (pc := 6) (tgt := 17) C dX7_changes_6 (by decide) ?_ ?_
  · refine g_bipush (pc := 17) (v := -2) C dX7_changes_17 (by decide) ?_
    exact g_iret (pc := 19) C hr dX7_changes_19
  · refine g_aload_n (pc := 9) C dX7_changes_9 (i := 0) rfl 0 rfl ?_
    refine g_iload_n (pc := 10) C dX7_changes_10 (i := 1) rfl 1 rfl ?_
    refine g_callVi (pc := 11) (As := [.int _]) C q1159 mw_X7_changesOf (fun _ hz => c_X7_changesOf C.2.2.2.2.2.2.2.1 hz) ⟨Nat.le_of_ble_eq_true rfl, Nat.le_of_ble_eq_true rfl⟩ rfl rfl 0 rfl rfl rfl (Nat.le_of_ble_eq_true rfl) dX7_changes_11 fun r4 S3 => ?_
    refine g_goto (pc := 14) (tgt := 19) C dX7_changes_14 (by decide) ?_
    exact g_iret (pc := 19) C hr dX7_changes_19
noncomputable def m_X7_sort (x1 : Int32) (x2 : Int32) (x3 : Int32) (S : St) : Option (Int32 × St) :=
bnd (m_X7_in x1 (0 : Int32) (2 : Int32) S) fun r2 S1 =>
if r2 = 0 then (
some ((-2 : Int32), S1))
else
bnd (m_X7_in x2 (0 : Int32) (1 : Int32) S1) fun r4 S3 =>
if r4 = 0 then (
some ((-2 : Int32), S3))
else
if x2 = 0 then (
bnd (m_X7_in x3 (0 : Int32) (9999 : Int32) S3) fun r14 S13 =>
if r14 = 0 then (
some ((-2 : Int32), S13))
else
if x2 = 0 then (
chk x1 3 <|
nm ((gI S13 8 (ix x1))) fun y18 =>
if x2 = 0 then (
chk x1 3 <|
nm (sI S13 8 (ix x1) x3) fun S20 =>
some (y18, S20))
else
chk x1 3 <|
nm (sI S13 9 (ix x1) x3) fun S19 =>
some (y18, S19))
else
chk x1 3 <|
nm ((gI S13 9 (ix x1))) fun y15 =>
if x2 = 0 then (
chk x1 3 <|
nm (sI S13 8 (ix x1) x3) fun S17 =>
some (y15, S17))
else
chk x1 3 <|
nm (sI S13 9 (ix x1) x3) fun S16 =>
some (y15, S16))
else
bnd (m_X7_in x3 (0 : Int32) (99 : Int32) S3) fun r6 S5 =>
if r6 = 0 then (
some ((-2 : Int32), S5))
else
if x2 = 0 then (
chk x1 3 <|
nm ((gI S5 8 (ix x1))) fun y10 =>
if x2 = 0 then (
chk x1 3 <|
nm (sI S5 8 (ix x1) x3) fun S12 =>
some (y10, S12))
else
chk x1 3 <|
nm (sI S5 9 (ix x1) x3) fun S11 =>
some (y10, S11))
else
chk x1 3 <|
nm ((gI S5 9 (ix x1))) fun y7 =>
if x2 = 0 then (
chk x1 3 <|
nm (sI S5 8 (ix x1) x3) fun S9 =>
some (y7, S9))
else
chk x1 3 <|
nm (sI S5 9 (ix x1) x3) fun S8 =>
some (y7, S8)
set_option maxRecDepth 20000 in
theorem c_X7_sort {l : Launch} {D : va_G} {ad : Nat → Nat} {cI cJ cZ : ClassId} {n : Nat} (hD : ∀ sz S, va_D (Adr ad n sz) (wM ad cI cJ cZ S)) {x1 : Int32} {x2 : Int32} {x3 : Int32} {S : St} {z : Int32 × St} (hf : m_X7_sort x1 x2 x3 S = some z) : CtI l yX7_sort cX7_sort 5 (some .int) ({ frames := 1, cells := 0, slots := 0, locals := 22 } : Room) D (wM ad cI cJ cZ) (tyX cI cJ cZ) ad n [.ref (ad 0), .int x1, .int x2, .int x3] S z := by
  refine CtI.of hf (by decide +kernel) (Nat.le_of_ble_eq_true rfl) hD (fun p e s m args below meth c C hr => ?_)
  refine g_sub [0, 1, 2, 3] (lv2 := [(0, .ref (ad 0)), (1, .int x1), (2, .int x2), (3, .int x3)]) rfl ?_
  unfold m_X7_sort
  refine g_iload_n (pc := 0) C dX7_sort_0 (i := 1) rfl 1 rfl ?_
  refine g_iconst (pc := 1) (v := 0) C dX7_sort_1 (by decide) ?_
  refine g_iconst (pc := 2) (v := 2) C dX7_sort_2 (by decide) ?_
  refine g_callSi (pc := 3) (As := [.int _, .int _, .int _]) C q960 mw_X7_in (fun _ hz => c_X7_in C.2.2.2.2.2.2.2.1 hz) ⟨Nat.le_of_ble_eq_true rfl, Nat.le_of_ble_eq_true rfl⟩ rfl rfl rfl (Nat.le_of_ble_eq_true rfl) dX7_sort_3 fun r2 S1 => ?_
  refine g_if_eq (pc := 6) (tgt := 38) C dX7_sort_6 (by decide) ?_ ?_
  · refine g_bipush (pc := 38) (v := -2) C dX7_sort_38 (by decide) ?_
    exact g_iret (pc := 40) C hr dX7_sort_40
  · refine g_iload_n (pc := 9) C dX7_sort_9 (i := 2) rfl 2 rfl ?_
    refine g_iconst (pc := 10) (v := 0) C dX7_sort_10 (by decide) ?_
    refine g_iconst (pc := 11) (v := 1) C dX7_sort_11 (by decide) ?_
    refine g_callSi (pc := 12) (As := [.int _, .int _, .int _]) C q960 mw_X7_in (fun _ hz => c_X7_in C.2.2.2.2.2.2.2.1 hz) ⟨Nat.le_of_ble_eq_true rfl, Nat.le_of_ble_eq_true rfl⟩ rfl rfl rfl (Nat.le_of_ble_eq_true rfl) dX7_sort_12 fun r4 S3 => ?_
    refine g_if_eq (pc := 15) (tgt := 38) C dX7_sort_15 (by decide) ?_ ?_
    · refine g_bipush (pc := 38) (v := -2) C dX7_sort_38 (by decide) ?_
      exact g_iret (pc := 40) C hr dX7_sort_40
    · refine g_iload_n (pc := 18) C dX7_sort_18 (i := 3) rfl 3 rfl ?_
      refine g_iconst (pc := 19) (v := 0) C dX7_sort_19 (by decide) ?_
      refine g_iload_n (pc := 20) C dX7_sort_20 (i := 2) rfl 2 rfl ?_
      refine g_if_ne (pc := 21) (tgt := 30) C dX7_sort_21 (by decide) ?_ ?_
      · refine g_bipush (pc := 30) (v := 99) C dX7_sort_30 (by decide) ?_
        refine g_callSi (pc := 32) (As := [.int _, .int _, .int _]) C q960 mw_X7_in (fun _ hz => c_X7_in C.2.2.2.2.2.2.2.1 hz) ⟨Nat.le_of_ble_eq_true rfl, Nat.le_of_ble_eq_true rfl⟩ rfl rfl rfl (Nat.le_of_ble_eq_true rfl) dX7_sort_32 fun r6 S5 => ?_
        refine g_if_ne (pc := 35) (tgt := 41) C dX7_sort_35 (by decide) ?_ ?_
        · refine g_iload_n (pc := 41) C dX7_sort_41 (i := 2) rfl 2 rfl ?_
          refine g_if_ne (pc := 42) (tgt := 54) C dX7_sort_42 (by decide) ?_ ?_
          · refine g_aload_n (pc := 54) C dX7_sort_54 (i := 0) rfl 0 rfl ?_
            refine gt_X7_pays (pc := 55) C q885 dX7_sort_55 ?_
            refine g_iload_n (pc := 58) C dX7_sort_58 (i := 1) rfl 1 rfl ?_
            refine al_X7_pays (pc := 59) C dX7_sort_59 ?_
            refine g_nmi fun y7 => ?_
            refine g_istore (pc := 60) (i := 4) (j := 0) (lv2 := [(4, .int y7), (0, .ref (ad 0)), (1, .int x1), (2, .int x2), (3, .int x3)]) C dX7_sort_60 (by decide) rfl ?_
            refine g_iload_n (pc := 62) C dX7_sort_62 (i := 2) rfl 3 rfl ?_
            refine g_if_ne (pc := 63) (tgt := 76) C dX7_sort_63 (by decide) ?_ ?_
            · refine g_aload_n (pc := 76) C dX7_sort_76 (i := 0) rfl 1 rfl ?_
              refine gt_X7_pays (pc := 77) C q885 dX7_sort_77 ?_
              refine g_iload_n (pc := 80) C dX7_sort_80 (i := 1) rfl 2 rfl ?_
              refine g_iload_n (pc := 81) C dX7_sort_81 (i := 3) rfl 4 rfl ?_
              refine as_X7_pays (pc := 82) C dX7_sort_82 fun S8 => ?_
              refine g_iload (pc := 83) C dX7_sort_83 0 rfl ?_
              exact g_iret (pc := 85) C hr dX7_sort_85
            · refine g_aload_n (pc := 66) C dX7_sort_66 (i := 0) rfl 1 rfl ?_
              refine gt_X7_needs (pc := 67) C q884 dX7_sort_67 ?_
              refine g_iload_n (pc := 70) C dX7_sort_70 (i := 1) rfl 2 rfl ?_
              refine g_iload_n (pc := 71) C dX7_sort_71 (i := 3) rfl 4 rfl ?_
              refine as_X7_needs (pc := 72) C dX7_sort_72 fun S9 => ?_
              refine g_goto (pc := 73) (tgt := 83) C dX7_sort_73 (by decide) ?_
              refine g_iload (pc := 83) C dX7_sort_83 0 rfl ?_
              exact g_iret (pc := 85) C hr dX7_sort_85
          · refine g_aload_n (pc := 45) C dX7_sort_45 (i := 0) rfl 0 rfl ?_
            refine gt_X7_needs (pc := 46) C q884 dX7_sort_46 ?_
            refine g_iload_n (pc := 49) C dX7_sort_49 (i := 1) rfl 1 rfl ?_
            refine al_X7_needs (pc := 50) C dX7_sort_50 ?_
            refine g_goto (pc := 51) (tgt := 60) C dX7_sort_51 (by decide) ?_
            refine g_nmi fun y10 => ?_
            refine g_istore (pc := 60) (i := 4) (j := 0) (lv2 := [(4, .int y10), (0, .ref (ad 0)), (1, .int x1), (2, .int x2), (3, .int x3)]) C dX7_sort_60 (by decide) rfl ?_
            refine g_iload_n (pc := 62) C dX7_sort_62 (i := 2) rfl 3 rfl ?_
            refine g_if_ne (pc := 63) (tgt := 76) C dX7_sort_63 (by decide) ?_ ?_
            · refine g_aload_n (pc := 76) C dX7_sort_76 (i := 0) rfl 1 rfl ?_
              refine gt_X7_pays (pc := 77) C q885 dX7_sort_77 ?_
              refine g_iload_n (pc := 80) C dX7_sort_80 (i := 1) rfl 2 rfl ?_
              refine g_iload_n (pc := 81) C dX7_sort_81 (i := 3) rfl 4 rfl ?_
              refine as_X7_pays (pc := 82) C dX7_sort_82 fun S11 => ?_
              refine g_iload (pc := 83) C dX7_sort_83 0 rfl ?_
              exact g_iret (pc := 85) C hr dX7_sort_85
            · refine g_aload_n (pc := 66) C dX7_sort_66 (i := 0) rfl 1 rfl ?_
              refine gt_X7_needs (pc := 67) C q884 dX7_sort_67 ?_
              refine g_iload_n (pc := 70) C dX7_sort_70 (i := 1) rfl 2 rfl ?_
              refine g_iload_n (pc := 71) C dX7_sort_71 (i := 3) rfl 4 rfl ?_
              refine as_X7_needs (pc := 72) C dX7_sort_72 fun S12 => ?_
              refine g_goto (pc := 73) (tgt := 83) C dX7_sort_73 (by decide) ?_
              refine g_iload (pc := 83) C dX7_sort_83 0 rfl ?_
              exact g_iret (pc := 85) C hr dX7_sort_85
        · refine g_bipush (pc := 38) (v := -2) C dX7_sort_38 (by decide) ?_
          exact g_iret (pc := 40) C hr dX7_sort_40
      · refine g_sipush (pc := 24) (v := 9999) C dX7_sort_24 (by decide) ?_
        refine g_goto (pc := 27) (tgt := 32) C dX7_sort_27 (by decide) ?_
        refine g_callSi (pc := 32) (As := [.int _, .int _, .int _]) C q960 mw_X7_in (fun _ hz => c_X7_in C.2.2.2.2.2.2.2.1 hz) ⟨Nat.le_of_ble_eq_true rfl, Nat.le_of_ble_eq_true rfl⟩ rfl rfl rfl (Nat.le_of_ble_eq_true rfl) dX7_sort_32 fun r14 S13 => ?_
        refine g_if_ne (pc := 35) (tgt := 41) C dX7_sort_35 (by decide) ?_ ?_
        · refine g_iload_n (pc := 41) C dX7_sort_41 (i := 2) rfl 2 rfl ?_
          refine g_if_ne (pc := 42) (tgt := 54) C dX7_sort_42 (by decide) ?_ ?_
          · refine g_aload_n (pc := 54) C dX7_sort_54 (i := 0) rfl 0 rfl ?_
            refine gt_X7_pays (pc := 55) C q885 dX7_sort_55 ?_
            refine g_iload_n (pc := 58) C dX7_sort_58 (i := 1) rfl 1 rfl ?_
            refine al_X7_pays (pc := 59) C dX7_sort_59 ?_
            refine g_nmi fun y15 => ?_
            refine g_istore (pc := 60) (i := 4) (j := 0) (lv2 := [(4, .int y15), (0, .ref (ad 0)), (1, .int x1), (2, .int x2), (3, .int x3)]) C dX7_sort_60 (by decide) rfl ?_
            refine g_iload_n (pc := 62) C dX7_sort_62 (i := 2) rfl 3 rfl ?_
            refine g_if_ne (pc := 63) (tgt := 76) C dX7_sort_63 (by decide) ?_ ?_
            · refine g_aload_n (pc := 76) C dX7_sort_76 (i := 0) rfl 1 rfl ?_
              refine gt_X7_pays (pc := 77) C q885 dX7_sort_77 ?_
              refine g_iload_n (pc := 80) C dX7_sort_80 (i := 1) rfl 2 rfl ?_
              refine g_iload_n (pc := 81) C dX7_sort_81 (i := 3) rfl 4 rfl ?_
              refine as_X7_pays (pc := 82) C dX7_sort_82 fun S16 => ?_
              refine g_iload (pc := 83) C dX7_sort_83 0 rfl ?_
              exact g_iret (pc := 85) C hr dX7_sort_85
            · refine g_aload_n (pc := 66) C dX7_sort_66 (i := 0) rfl 1 rfl ?_
              refine gt_X7_needs (pc := 67) C q884 dX7_sort_67 ?_
              refine g_iload_n (pc := 70) C dX7_sort_70 (i := 1) rfl 2 rfl ?_
              refine g_iload_n (pc := 71) C dX7_sort_71 (i := 3) rfl 4 rfl ?_
              refine as_X7_needs (pc := 72) C dX7_sort_72 fun S17 => ?_
              refine g_goto (pc := 73) (tgt := 83) C dX7_sort_73 (by decide) ?_
              refine g_iload (pc := 83) C dX7_sort_83 0 rfl ?_
              exact g_iret (pc := 85) C hr dX7_sort_85
          · refine g_aload_n (pc := 45) C dX7_sort_45 (i := 0) rfl 0 rfl ?_
            refine gt_X7_needs (pc := 46) C q884 dX7_sort_46 ?_
            refine g_iload_n (pc := 49) C dX7_sort_49 (i := 1) rfl 1 rfl ?_
            refine al_X7_needs (pc := 50) C dX7_sort_50 ?_
            refine g_goto (pc := 51) (tgt := 60) C dX7_sort_51 (by decide) ?_
            refine g_nmi fun y18 => ?_
            refine g_istore (pc := 60) (i := 4) (j := 0) (lv2 := [(4, .int y18), (0, .ref (ad 0)), (1, .int x1), (2, .int x2), (3, .int x3)]) C dX7_sort_60 (by decide) rfl ?_
            refine g_iload_n (pc := 62) C dX7_sort_62 (i := 2) rfl 3 rfl ?_
            refine g_if_ne (pc := 63) (tgt := 76) C dX7_sort_63 (by decide) ?_ ?_
            · refine g_aload_n (pc := 76) C dX7_sort_76 (i := 0) rfl 1 rfl ?_
              refine gt_X7_pays (pc := 77) C q885 dX7_sort_77 ?_
              refine g_iload_n (pc := 80) C dX7_sort_80 (i := 1) rfl 2 rfl ?_
              refine g_iload_n (pc := 81) C dX7_sort_81 (i := 3) rfl 4 rfl ?_
              refine as_X7_pays (pc := 82) C dX7_sort_82 fun S19 => ?_
              refine g_iload (pc := 83) C dX7_sort_83 0 rfl ?_
              exact g_iret (pc := 85) C hr dX7_sort_85
            · refine g_aload_n (pc := 66) C dX7_sort_66 (i := 0) rfl 1 rfl ?_
              refine gt_X7_needs (pc := 67) C q884 dX7_sort_67 ?_
              refine g_iload_n (pc := 70) C dX7_sort_70 (i := 1) rfl 2 rfl ?_
              refine g_iload_n (pc := 71) C dX7_sort_71 (i := 3) rfl 4 rfl ?_
              refine as_X7_needs (pc := 72) C dX7_sort_72 fun S20 => ?_
              refine g_goto (pc := 73) (tgt := 83) C dX7_sort_73 (by decide) ?_
              refine g_iload (pc := 83) C dX7_sort_83 0 rfl ?_
              exact g_iret (pc := 85) C hr dX7_sort_85
        · refine g_bipush (pc := 38) (v := -2) C dX7_sort_38 (by decide) ?_
          exact g_iret (pc := 40) C hr dX7_sort_40
noncomputable def m_X7_fives (x0 : Int32) (S : St) : Option (Int32 × St) :=
if x0 = 0 then (
some ((1 : Int32), S))
else
if x0 = (1 : Int32) then (
some ((5 : Int32), S))
else
some ((25 : Int32), S)
set_option maxRecDepth 20000 in
theorem c_X7_fives {l : Launch} {D : va_G} {ad : Nat → Nat} {cI cJ cZ : ClassId} {n : Nat} (hD : ∀ sz S, va_D (Adr ad n sz) (wM ad cI cJ cZ S)) {x0 : Int32} {S : St} {z : Int32 × St} (hf : m_X7_fives x0 S = some z) : CtI l yX7_fives cX7_fives 1 (some .int) ({ frames := 0, cells := 0, slots := 0, locals := 0 } : Room) D (wM ad cI cJ cZ) (tyX cI cJ cZ) ad n [.int x0] S z := by
  refine CtI.of hf (by decide +kernel) (Nat.le_of_ble_eq_true rfl) hD (fun p e s m args below meth c C hr => ?_)
  refine g_sub [0] (lv2 := [(0, .int x0)]) rfl ?_
  unfold m_X7_fives
  refine g_iload_n (pc := 0) C dX7_fives_0 (i := 0) rfl 0 rfl ?_
  refine g_if_ne (pc := 1) (tgt := 8) C dX7_fives_1 (by decide) ?_ ?_
  · refine g_iload_n (pc := 8) C dX7_fives_8 (i := 0) rfl 0 rfl ?_
    refine g_iconst (pc := 9) (v := 1) C dX7_fives_9 (by decide) ?_
    refine g_icmp_ne (pc := 10) (tgt := 17) C dX7_fives_10 (by decide) ?_ ?_
    · refine g_bipush (pc := 17) (v := 25) C dX7_fives_17 (by decide) ?_
      exact g_iret (pc := 19) C hr dX7_fives_19
    · refine g_iconst (pc := 13) (v := 5) C dX7_fives_13 (by decide) ?_
      refine g_goto (pc := 14) (tgt := 19) C dX7_fives_14 (by decide) ?_
      exact g_iret (pc := 19) C hr dX7_fives_19
  · refine g_iconst (pc := 4) (v := 1) C dX7_fives_4 (by decide) ?_
    refine g_goto (pc := 5) (tgt := 19) C dX7_fives_5 (by decide) ?_
    exact g_iret (pc := 19) C hr dX7_fives_19
end MM
