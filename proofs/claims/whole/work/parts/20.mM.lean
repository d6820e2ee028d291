section MM
variable {p : Program} {l : Launch} {e : Env} {s : State} {m : MethodId} {args : Array Value} {below : List Frame} {meth : Method} {c : Code} {D : va_G} {ad : Nat → Nat} {n : Nat} {cI cJ cZ : ClassId}
noncomputable def b_X7_partsNow_13 (k : Int32 → St → Option (Int32 × St)) (rec : Int32 → Int32 → St → Option (Int32 × St)) (x2 : Int32) (x3 : Int32) (S : St) : Option (Int32 × St) :=
bnd (m_X7_all S) fun r6 S5 =>
if x3 < r6 then (
if x2 = (-1 : Int32) then (
if (1 : Int32) = 0 then (
rec x2 (x3 + 2) S5)
else
bnd (m_X7_isParting x3 S5) fun r8 S7 =>
if r8 = 0 then (
rec x2 (x3 + 2) S7)
else
rec x3 (x3 + 2) S7)
else
bnd (m_X7_differs x3 S5) fun r10 S9 =>
bnd (m_X7_differs x2 S9) fun r12 S11 =>
if r10 < r12 then (
if (1 : Int32) = 0 then (
rec x2 (x3 + 2) S11)
else
bnd (m_X7_isParting x3 S11) fun r16 S15 =>
if r16 = 0 then (
rec x2 (x3 + 2) S15)
else
rec x3 (x3 + 2) S15)
else
if (0 : Int32) = 0 then (
rec x2 (x3 + 2) S11)
else
bnd (m_X7_isParting x3 S11) fun r14 S13 =>
if r14 = 0 then (
rec x2 (x3 + 2) S13)
else
rec x3 (x3 + 2) S13)
else
k x2 S5
noncomputable def m_X7_partsNow (S : St) : Option (Int32 × St) :=
bnd (m_X7_faultNow S) fun r2 S1 =>
bndV (m_X7_laysYears S1) fun S3 =>
it2 (b_X7_partsNow_13 (fun x2_S17 S17 =>
some (x2_S17, S17))) 5000 (-1 : Int32) (1 : Int32) S3
set_option maxRecDepth 20000 in
theorem u_X7_partsNow_13 (C : Cx p s m args meth c cX7_partsNow 5 RX7 D (tyX cI cJ cZ) ad n (wM ad cI cJ cZ)) (hr : meth.sig.returnType = (some .int)) (k : Int32 → St → Option (Int32 × St)) (hk : ∀ (x2 : Int32) (S : St), GM p l e ({ frames := 5, cells := 0, slots := 0, locals := 116 } : Room) s m args below meth c D ad n (wM ad cI cJ cZ) 5 (QI D (wM ad cI cJ cZ) ad n args s below) (k x2 S) S 71 [(2, .int x2)] []) (rec : Int32 → Int32 → St → Option (Int32 × St)) (hrec : ∀ (x2 : Int32) (x3 : Int32) (S : St), GM p l e ({ frames := 5, cells := 0, slots := 0, locals := 116 } : Room) s m args below meth c D ad n (wM ad cI cJ cZ) 5 (QI D (wM ad cI cJ cZ) ad n args s below) (rec x2 x3 S) S 13 [(0, .ref (ad 0)), (2, .int x2), (3, .int x3)] []) (x2 : Int32) (x3 : Int32) (S : St) : GM p l e ({ frames := 5, cells := 0, slots := 0, locals := 116 } : Room) s m args below meth c D ad n (wM ad cI cJ cZ) 5 (QI D (wM ad cI cJ cZ) ad n args s below) (b_X7_partsNow_13 k rec x2 x3 S) S 13 [(0, .ref (ad 0)), (2, .int x2), (3, .int x3)] [] := by
  unfold b_X7_partsNow_13
  refine g_iload_n (pc := 13) C dX7_partsNow_13 (i := 3) rfl 2 rfl ?_
  refine g_aload_n (pc := 14) C dX7_partsNow_14 (i := 0) rfl 0 rfl ?_
  refine g_callVi (pc := 15) (As := []) C q1082 mw_X7_all (fun _ hz => c_X7_all C.2.2.2.2.2.2.2.1 hz) ⟨Nat.le_of_ble_eq_true rfl, Nat.le_of_ble_eq_true rfl⟩ rfl rfl 0 rfl rfl rfl (Nat.le_of_ble_eq_true rfl) dX7_partsNow_15 fun r6 S5 => ?_
  refine g_icmp_ge (pc := 18) (tgt := 71) C dX7_partsNow_18 (by decide) ?_ ?_
  · refine g_sub [1] rfl (hk _ _)
  · refine g_iload_n (pc := 21) C dX7_partsNow_21 (i := 2) rfl 1 rfl ?_
    refine g_iconst (pc := 22) (v := -1) C dX7_partsNow_22 (by decide) ?_
    refine g_icmp_eq (pc := 23) (tgt := 39) C dX7_partsNow_23 (by decide) ?_ ?_
    · refine g_iconst (pc := 39) (v := 1) C dX7_partsNow_39 (by decide) ?_
      refine g_goto (pc := 40) (tgt := 44) C dX7_partsNow_40 (by decide) ?_
      refine g_istore (pc := 44) (i := 4) (j := 0) (lv2 := [(4, .int (1 : Int32)), (0, .ref (ad 0)), (2, .int x2), (3, .int x3)]) C dX7_partsNow_44 (by decide) rfl ?_
      refine g_iload (pc := 46) C dX7_partsNow_46 0 rfl ?_
      refine g_if_eq (pc := 48) (tgt := 63) C dX7_partsNow_48 (by decide) ?_ ?_
      · refine g_iload_n (pc := 63) C dX7_partsNow_63 (i := 2) rfl 2 rfl ?_
        refine g_istore_n (pc := 64) (i := 2) (lv2 := [(2, .int x2), (4, .int (1 : Int32)), (0, .ref (ad 0)), (3, .int x3)]) C dX7_partsNow_64 rfl (by decide) rfl ?_
        refine g_iinc (pc := 65) (v := (x3 + 2)) (lv2 := [(3, .int (x3 + 2)), (2, .int x2), (4, .int (1 : Int32)), (0, .ref (ad 0))]) C dX7_partsNow_65 3 rfl rfl (by decide) rfl ?_
        refine g_goto (pc := 68) (tgt := 13) C dX7_partsNow_68 (by decide) ?_
        refine g_sub [3, 1, 0] rfl (hrec _ _ _)
      · refine g_aload_n (pc := 51) C dX7_partsNow_51 (i := 0) rfl 1 rfl ?_
        refine g_iload_n (pc := 52) C dX7_partsNow_52 (i := 3) rfl 3 rfl ?_
        refine g_callVi (pc := 53) (As := [.int _]) C q1093 mw_X7_isParting (fun _ hz => c_X7_isParting C.2.2.2.2.2.2.2.1 hz) ⟨Nat.le_of_ble_eq_true rfl, Nat.le_of_ble_eq_true rfl⟩ rfl rfl 0 rfl rfl rfl (Nat.le_of_ble_eq_true rfl) dX7_partsNow_53 fun r8 S7 => ?_
        refine g_if_eq (pc := 56) (tgt := 63) C dX7_partsNow_56 (by decide) ?_ ?_
        · refine g_iload_n (pc := 63) C dX7_partsNow_63 (i := 2) rfl 2 rfl ?_
          refine g_istore_n (pc := 64) (i := 2) (lv2 := [(2, .int x2), (4, .int (1 : Int32)), (0, .ref (ad 0)), (3, .int x3)]) C dX7_partsNow_64 rfl (by decide) rfl ?_
          refine g_iinc (pc := 65) (v := (x3 + 2)) (lv2 := [(3, .int (x3 + 2)), (2, .int x2), (4, .int (1 : Int32)), (0, .ref (ad 0))]) C dX7_partsNow_65 3 rfl rfl (by decide) rfl ?_
          refine g_goto (pc := 68) (tgt := 13) C dX7_partsNow_68 (by decide) ?_
          refine g_sub [3, 1, 0] rfl (hrec _ _ _)
        · refine g_iload_n (pc := 59) C dX7_partsNow_59 (i := 3) rfl 3 rfl ?_
          refine g_goto (pc := 60) (tgt := 64) C dX7_partsNow_60 (by decide) ?_
          refine g_istore_n (pc := 64) (i := 2) (lv2 := [(2, .int x3), (4, .int (1 : Int32)), (0, .ref (ad 0)), (3, .int x3)]) C dX7_partsNow_64 rfl (by decide) rfl ?_
          refine g_iinc (pc := 65) (v := (x3 + 2)) (lv2 := [(3, .int (x3 + 2)), (2, .int x3), (4, .int (1 : Int32)), (0, .ref (ad 0))]) C dX7_partsNow_65 3 rfl rfl (by decide) rfl ?_
          refine g_goto (pc := 68) (tgt := 13) C dX7_partsNow_68 (by decide) ?_
          refine g_sub [3, 1, 0] rfl (hrec _ _ _)
    · refine g_aload_n (pc := 26) C dX7_partsNow_26 (i := 0) rfl 0 rfl ?_
      refine g_iload_n (pc := 27) C dX7_partsNow_27 (i := 3) rfl 2 rfl ?_
      refine g_callVi (pc := 28) (As := [.int _]) C q1086 mw_X7_differs (fun _ hz => c_X7_differs C.2.2.2.2.2.2.2.1 hz) ⟨Nat.le_of_ble_eq_true rfl, Nat.le_of_ble_eq_true rfl⟩ rfl rfl 0 rfl rfl rfl (Nat.le_of_ble_eq_true rfl) dX7_partsNow_28 fun r10 S9 => ?_
      refine g_aload_n (pc := 31) C dX7_partsNow_31 (i := 0) rfl 0 rfl ?_
      refine g_iload_n (pc := 32) C dX7_partsNow_32 (i := 2) rfl 1 rfl ?_
      refine g_callVi (pc := 33) (As := [.int _]) C q1086 mw_X7_differs (fun _ hz => c_X7_differs C.2.2.2.2.2.2.2.1 hz) ⟨Nat.le_of_ble_eq_true rfl, Nat.le_of_ble_eq_true rfl⟩ rfl rfl 0 rfl rfl rfl (Nat.le_of_ble_eq_true rfl) dX7_partsNow_33 fun r12 S11 => ?_
      refine g_icmp_ge (pc := 36) (tgt := 43) C dX7_partsNow_36 (by decide) ?_ ?_
      · refine g_iconst (pc := 43) (v := 0) C dX7_partsNow_43 (by decide) ?_
        refine g_istore (pc := 44) (i := 4) (j := 0) (lv2 := [(4, .int (0 : Int32)), (0, .ref (ad 0)), (2, .int x2), (3, .int x3)]) C dX7_partsNow_44 (by decide) rfl ?_
        refine g_iload (pc := 46) C dX7_partsNow_46 0 rfl ?_
        refine g_if_eq (pc := 48) (tgt := 63) C dX7_partsNow_48 (by decide) ?_ ?_
        · refine g_iload_n (pc := 63) C dX7_partsNow_63 (i := 2) rfl 2 rfl ?_
          refine g_istore_n (pc := 64) (i := 2) (lv2 := [(2, .int x2), (4, .int (0 : Int32)), (0, .ref (ad 0)), (3, .int x3)]) C dX7_partsNow_64 rfl (by decide) rfl ?_
          refine g_iinc (pc := 65) (v := (x3 + 2)) (lv2 := [(3, .int (x3 + 2)), (2, .int x2), (4, .int (0 : Int32)), (0, .ref (ad 0))]) C dX7_partsNow_65 3 rfl rfl (by decide) rfl ?_
          refine g_goto (pc := 68) (tgt := 13) C dX7_partsNow_68 (by decide) ?_
          refine g_sub [3, 1, 0] rfl (hrec _ _ _)
        · refine g_aload_n (pc := 51) C dX7_partsNow_51 (i := 0) rfl 1 rfl ?_
          refine g_iload_n (pc := 52) C dX7_partsNow_52 (i := 3) rfl 3 rfl ?_
          refine g_callVi (pc := 53) (As := [.int _]) C q1093 mw_X7_isParting (fun _ hz => c_X7_isParting C.2.2.2.2.2.2.2.1 hz) ⟨Nat.le_of_ble_eq_true rfl, Nat.le_of_ble_eq_true rfl⟩ rfl rfl 0 rfl rfl rfl (Nat.le_of_ble_eq_true rfl) dX7_partsNow_53 fun r14 S13 => ?_
          refine g_if_eq (pc := 56) (tgt := 63) C dX7_partsNow_56 (by decide) ?_ ?_
          · refine g_iload_n (pc := 63) C dX7_partsNow_63 (i := 2) rfl 2 rfl ?_
            refine g_istore_n (pc := 64) (i := 2) (lv2 := [(2, .int x2), (4, .int (0 : Int32)), (0, .ref (ad 0)), (3, .int x3)]) C dX7_partsNow_64 rfl (by decide) rfl ?_
            refine g_iinc (pc := 65) (v := (x3 + 2)) (lv2 := [(3, .int (x3 + 2)), (2, .int x2), (4, .int (0 : Int32)), (0, .ref (ad 0))]) C dX7_partsNow_65 3 rfl rfl (by decide) rfl ?_
            refine g_goto (pc := 68) (tgt := 13) C dX7_partsNow_68 (by decide) ?_
            refine g_sub [3, 1, 0] rfl (hrec _ _ _)
          · refine g_iload_n (pc := 59) C dX7_partsNow_59 (i := 3) rfl 3 rfl ?_
            refine g_goto (pc := 60) (tgt := 64) C dX7_partsNow_60 (by decide) ?_
            refine g_istore_n (pc := 64) (i := 2) (lv2 := [(2, .int x3), (4, .int (0 : Int32)), (0, .ref (ad 0)), (3, .int x3)]) C dX7_partsNow_64 rfl (by decide) rfl ?_
            refine g_iinc (pc := 65) (v := (x3 + 2)) (lv2 := [(3, .int (x3 + 2)), (2, .int x3), (4, .int (0 : Int32)), (0, .ref (ad 0))]) C dX7_partsNow_65 3 rfl rfl (by decide) rfl ?_
            refine g_goto (pc := 68) (tgt := 13) C dX7_partsNow_68 (by decide) ?_
            refine g_sub [3, 1, 0] rfl (hrec _ _ _)
      · refine g_iconst (pc := 39) (v := 1) C dX7_partsNow_39 (by decide) ?_
        refine g_goto (pc := 40) (tgt := 44) C dX7_partsNow_40 (by decide) ?_
        refine g_istore (pc := 44) (i := 4) (j := 0) (lv2 := [(4, .int (1 : Int32)), (0, .ref (ad 0)), (2, .int x2), (3, .int x3)]) C dX7_partsNow_44 (by decide) rfl ?_
        refine g_iload (pc := 46) C dX7_partsNow_46 0 rfl ?_
        refine g_if_eq (pc := 48) (tgt := 63) C dX7_partsNow_48 (by decide) ?_ ?_
        · refine g_iload_n (pc := 63) C dX7_partsNow_63 (i := 2) rfl 2 rfl ?_
          refine g_istore_n (pc := 64) (i := 2) (lv2 := [(2, .int x2), (4, .int (1 : Int32)), (0, .ref (ad 0)), (3, .int x3)]) C dX7_partsNow_64 rfl (by decide) rfl ?_
          refine g_iinc (pc := 65) (v := (x3 + 2)) (lv2 := [(3, .int (x3 + 2)), (2, .int x2), (4, .int (1 : Int32)), (0, .ref (ad 0))]) C dX7_partsNow_65 3 rfl rfl (by decide) rfl ?_
          refine g_goto (pc := 68) (tgt := 13) C dX7_partsNow_68 (by decide) ?_
          refine g_sub [3, 1, 0] rfl (hrec _ _ _)
        · refine g_aload_n (pc := 51) C dX7_partsNow_51 (i := 0) rfl 1 rfl ?_
          refine g_iload_n (pc := 52) C dX7_partsNow_52 (i := 3) rfl 3 rfl ?_
          refine g_callVi (pc := 53) (As := [.int _]) C q1093 mw_X7_isParting (fun _ hz => c_X7_isParting C.2.2.2.2.2.2.2.1 hz) ⟨Nat.le_of_ble_eq_true rfl, Nat.le_of_ble_eq_true rfl⟩ rfl rfl 0 rfl rfl rfl (Nat.le_of_ble_eq_true rfl) dX7_partsNow_53 fun r16 S15 => ?_
          refine g_if_eq (pc := 56) (tgt := 63) C dX7_partsNow_56 (by decide) ?_ ?_
          · refine g_iload_n (pc := 63) C dX7_partsNow_63 (i := 2) rfl 2 rfl ?_
            refine g_istore_n (pc := 64) (i := 2) (lv2 := [(2, .int x2), (4, .int (1 : Int32)), (0, .ref (ad 0)), (3, .int x3)]) C dX7_partsNow_64 rfl (by decide) rfl ?_
            refine g_iinc (pc := 65) (v := (x3 + 2)) (lv2 := [(3, .int (x3 + 2)), (2, .int x2), (4, .int (1 : Int32)), (0, .ref (ad 0))]) C dX7_partsNow_65 3 rfl rfl (by decide) rfl ?_
            refine g_goto (pc := 68) (tgt := 13) C dX7_partsNow_68 (by decide) ?_
            refine g_sub [3, 1, 0] rfl (hrec _ _ _)
          · refine g_iload_n (pc := 59) C dX7_partsNow_59 (i := 3) rfl 3 rfl ?_
            refine g_goto (pc := 60) (tgt := 64) C dX7_partsNow_60 (by decide) ?_
            refine g_istore_n (pc := 64) (i := 2) (lv2 := [(2, .int x3), (4, .int (1 : Int32)), (0, .ref (ad 0)), (3, .int x3)]) C dX7_partsNow_64 rfl (by decide) rfl ?_
            refine g_iinc (pc := 65) (v := (x3 + 2)) (lv2 := [(3, .int (x3 + 2)), (2, .int x3), (4, .int (1 : Int32)), (0, .ref (ad 0))]) C dX7_partsNow_65 3 rfl rfl (by decide) rfl ?_
            refine g_goto (pc := 68) (tgt := 13) C dX7_partsNow_68 (by decide) ?_
            refine g_sub [3, 1, 0] rfl (hrec _ _ _)
set_option maxRecDepth 20000 in
theorem c_X7_partsNow {l : Launch} {D : va_G} {ad : Nat → Nat} {cI cJ cZ : ClassId} {n : Nat} (hD : ∀ sz S, va_D (Adr ad n sz) (wM ad cI cJ cZ S)) {S : St} {z : Int32 × St} (hf : m_X7_partsNow S = some z) : CtI l yX7_partsNow cX7_partsNow 5 (some .int) ({ frames := 5, cells := 0, slots := 0, locals := 116 } : Room) D (wM ad cI cJ cZ) (tyX cI cJ cZ) ad n [.ref (ad 0)] S z := by
  refine CtI.of hf (by decide +kernel) (Nat.le_of_ble_eq_true rfl) hD (fun p e s m args below meth c C hr => ?_)
  refine g_sub [0] (lv2 := [(0, .ref (ad 0))]) rfl ?_
  unfold m_X7_partsNow
  refine g_aload_n (pc := 0) C dX7_partsNow_0 (i := 0) rfl 0 rfl ?_
  refine g_callVi (pc := 1) (As := []) C q971 mw_X7_faultNow (fun _ hz => c_X7_faultNow C.2.2.2.2.2.2.2.1 hz) ⟨Nat.le_of_ble_eq_true rfl, Nat.le_of_ble_eq_true rfl⟩ rfl rfl 0 rfl rfl rfl (Nat.le_of_ble_eq_true rfl) dX7_partsNow_1 fun r2 S1 => ?_
  refine g_istore_n (pc := 4) (i := 1) (lv2 := [(1, .int r2), (0, .ref (ad 0))]) C dX7_partsNow_4 rfl (by decide) rfl ?_
  refine g_aload_n (pc := 5) C dX7_partsNow_5 (i := 0) rfl 1 rfl ?_
  refine g_callVv (pc := 6) (As := []) C q1078 mw_X7_laysYears (fun _ hz => c_X7_laysYears C.2.2.2.2.2.2.2.1 hz) ⟨Nat.le_of_ble_eq_true rfl, Nat.le_of_ble_eq_true rfl⟩ rfl rfl 0 rfl rfl rfl (Nat.le_of_ble_eq_true rfl) dX7_partsNow_6 fun S3 => ?_
  refine g_iconst (pc := 9) (v := -1) C dX7_partsNow_9 (by decide) ?_
  refine g_istore_n (pc := 10) (i := 2) (lv2 := [(2, .int (-1 : Int32)), (1, .int r2), (0, .ref (ad 0))]) C dX7_partsNow_10 rfl (by decide) rfl ?_
  refine g_iconst (pc := 11) (v := 1) C dX7_partsNow_11 (by decide) ?_
  refine g_istore_n (pc := 12) (i := 3) (lv2 := [(3, .int (1 : Int32)), (2, .int (-1 : Int32)), (1, .int r2), (0, .ref (ad 0))]) C dX7_partsNow_12 rfl (by decide) rfl ?_
  refine g_sub [3, 1, 0] (lv2 := [(0, .ref (ad 0)), (2, .int (-1 : Int32)), (3, .int (1 : Int32))]) rfl ?_
  refine g_it2 (pc := 13) (u_X7_partsNow_13 C hr _ fun x2_S17 S17 => ?_) _ _ _ _
  refine g_iload_n (pc := 71) C dX7_partsNow_71 (i := 2) rfl 0 rfl ?_
  exact g_iret (pc := 72) C hr dX7_partsNow_72
noncomputable def m_X7_partsOf (x1 : Int32) (S : St) : Option (Int32 × St) :=
bnd (m_X7_partsNow S) fun r2 S1 =>
if r2 = (-1 : Int32) then (
some (r2, S1))
else
if x1 = (1 : Int32) then (
some (r2, S1))
else
bnd (m_X7_differs r2 S1) fun r4 S3 =>
some (r4, S3)
set_option maxRecDepth 20000 in
theorem c_X7_partsOf {l : Launch} {D : va_G} {ad : Nat → Nat} {cI cJ cZ : ClassId} {n : Nat} (hD : ∀ sz S, va_D (Adr ad n sz) (wM ad cI cJ cZ S)) {x1 : Int32} {S : St} {z : Int32 × St} (hf : m_X7_partsOf x1 S = some z) : CtI l yX7_partsOf cX7_partsOf 3 (some .int) ({ frames := 6, cells := 0, slots := 0, locals := 140 } : Room) D (wM ad cI cJ cZ) (tyX cI cJ cZ) ad n [.ref (ad 0), .int x1] S z := by
  refine CtI.of hf (by decide +kernel) (Nat.le_of_ble_eq_true rfl) hD (fun p e s m args below meth c C hr => ?_)
  refine g_sub [0, 1] (lv2 := [(0, .ref (ad 0)), (1, .int x1)]) rfl ?_
  unfold m_X7_partsOf
  refine g_aload_n (pc := 0) C dX7_partsOf_0 (i := 0) rfl 0 rfl ?_
  refine g_callVi (pc := 1) (As := []) C q1074 mw_X7_partsNow (fun _ hz => c_X7_partsNow C.2.2.2.2.2.2.2.1 hz) ⟨Nat.le_of_ble_eq_true rfl, Nat.le_of_ble_eq_true rfl⟩ rfl rfl 0 rfl rfl rfl (Nat.le_of_ble_eq_true rfl) dX7_partsOf_1 fun r2 S1 => ?_
  refine g_istore_n (pc := 4) (i := 2) (lv2 := [(2, .int r2), (0, .ref (ad 0)), (1, .int x1)]) C dX7_partsOf_4 rfl (by decide) rfl ?_
  refine g_iload_n (pc := 5) C dX7_partsOf_5 (i := 2) rfl 0 rfl ?_
  refine g_iconst (pc := 6) (v := -1) C dX7_partsOf_6 (by decide) ?_
  refine g_icmp_eq (pc := 7) (tgt := 15) C dX7_partsOf_7 (by decide) ?_ ?_
  · refine g_iload_n (pc := 15) C dX7_partsOf_15 (i := 2) rfl 0 rfl ?_
    refine g_goto (pc := 16) (tgt := 24) C dX7_partsOf_16 (by decide) ?_
    exact g_iret (pc := 24) C hr dX7_partsOf_24
  · refine g_iload_n (pc := 10) C dX7_partsOf_10 (i := 1) rfl 2 rfl ?_
    refine g_iconst (pc := 11) (v := 1) C dX7_partsOf_11 (by decide) ?_
    refine g_icmp_ne (pc := 12) (tgt := 19) C dX7_partsOf_12 (by decide) ?_ ?_
    · refine g_aload_n (pc := 19) C dX7_partsOf_19 (i := 0) rfl 1 rfl ?_
      refine g_iload_n (pc := 20) C dX7_partsOf_20 (i := 2) rfl 0 rfl ?_
      refine g_callVi (pc := 21) (As := [.int _]) C q1086 mw_X7_differs (fun _ hz => c_X7_differs C.2.2.2.2.2.2.2.1 hz) ⟨Nat.le_of_ble_eq_true rfl, Nat.le_of_ble_eq_true rfl⟩ rfl rfl 0 rfl rfl rfl (Nat.le_of_ble_eq_true rfl) dX7_partsOf_21 fun r4 S3 => ?_
      exact g_iret (pc := 24) C hr dX7_partsOf_24
    · refine g_iload_n (pc := 15) C dX7_partsOf_15 (i := 2) rfl 0 rfl ?_
      refine g_goto (pc := 16) (tgt := 24) C dX7_partsOf_16 (by decide) ?_
      exact g_iret (pc := 24) C hr dX7_partsOf_24
noncomputable def m_X7_parts (x1 : Int32) (S : St) : Option (Int32 × St) :=
bnd (m_X7_in x1 (0 : Int32) (1 : Int32) S) fun r2 S1 =>
if r2 = 0 then (
some ((-2 : Int32), S1))
else
bnd (m_X7_partsOf x1 S1) fun r4 S3 =>
some (r4, S3)
set_option maxRecDepth 20000 in
theorem c_X7_parts {l : Launch} {D : va_G} {ad : Nat → Nat} {cI cJ cZ : ClassId} {n : Nat} (hD : ∀ sz S, va_D (Adr ad n sz) (wM ad cI cJ cZ S)) {x1 : Int32} {S : St} {z : Int32 × St} (hf : m_X7_parts x1 S = some z) : CtI l yX7_parts cX7_parts 2 (some .int) ({ frames := 7, cells := 0, slots := 0, locals := 162 } : Room) D (wM ad cI cJ cZ) (tyX cI cJ cZ) ad n [.ref (ad 0), .int x1] S z := by
  refine CtI.of hf (by decide +kernel) (Nat.le_of_ble_eq_true rfl) hD (fun p e s m args below meth c C hr => ?_)
  refine g_sub [0, 1] (lv2 := [(0, .ref (ad 0)), (1, .int x1)]) rfl ?_
  unfold m_X7_parts
  refine g_iload_n (pc := 0) C dX7_parts_0 (i := 1) rfl 1 rfl ?_
  refine g_iconst (pc := 1) (v := 0) C dX7_parts_1 (by decide) ?_
  refine g_iconst (pc := 2) (v := 1) C dX7_parts_2 (by decide) ?_
  refine g_callSi (pc := 3) (As := [.int _, .int _, .int _]) C q960 mw_X7_in (fun _ hz => c_X7_in C.2.2.2.2.2.2.2.1 hz) ⟨Nat.le_of_ble_eq_true rfl, Nat.le_of_ble_eq_true rfl⟩ rfl rfl rfl (Nat.le_of_ble_eq_true rfl) dX7_parts_3 fun r2 S1 => ?_
  refine g_if_eq (pc := 6) (tgt := 17) C dX7_parts_6 (by decide) ?_ ?_
  · refine g_bipush (pc := 17) (v := -2) C dX7_parts_17 (by decide) ?_
    exact g_iret (pc := 19) C hr dX7_parts_19
  · refine g_aload_n (pc := 9) C dX7_parts_9 (i := 0) rfl 0 rfl ?_
    refine g_iload_n (pc := 10) C dX7_parts_10 (i := 1) rfl 1 rfl ?_
    refine g_callVi (pc := 11) (As := [.int _]) C q1070 mw_X7_partsOf (fun _ hz => c_X7_partsOf C.2.2.2.2.2.2.2.1 hz) ⟨Nat.le_of_ble_eq_true rfl, Nat.le_of_ble_eq_true rfl⟩ rfl rfl 0 rfl rfl rfl (Nat.le_of_ble_eq_true rfl) dX7_parts_11 fun r4 S3 => ?_
    refine g_goto (pc := 14) (tgt := 19) C dX7_parts_14 (by decide) ?_
    exact g_iret (pc := 19) C hr dX7_parts_19
noncomputable def m_X7_takenOf (x1 : Int32) (x2 : Int32) (x3 : Int32) (S : St) : Option (Int32 × St) :=
bnd (m_X7_hasOf x3 (1 : Int32) S) fun r2 S1 =>
chk x1 12 <|
nm ((gI S1 3 (ix x1))) fun y3 =>
chk x1 12 <|
nm (sI S1 3 (ix x1) x2) fun S4 =>
bnd (m_X7_hasOf x3 (1 : Int32) S4) fun r6 S5 =>
chk x1 12 <|
nm (sI S5 3 (ix x1) y3) fun S7 =>
some ((r2 - r6), S7)
set_option maxRecDepth 20000 in
theorem c_X7_takenOf {l : Launch} {D : va_G} {ad : Nat → Nat} {cI cJ cZ : ClassId} {n : Nat} (hD : ∀ sz S, va_D (Adr ad n sz) (wM ad cI cJ cZ S)) {x1 : Int32} {x2 : Int32} {x3 : Int32} {S : St} {z : Int32 × St} (hf : m_X7_takenOf x1 x2 x3 S = some z) : CtI l yX7_takenOf cX7_takenOf 7 (some .int) ({ frames := 5, cells := 0, slots := 0, locals := 121 } : Room) D (wM ad cI cJ cZ) (tyX cI cJ cZ) ad n [.ref (ad 0), .int x1, .int x2, .int x3] S z := by
  refine CtI.of hf (by decide +kernel) (Nat.le_of_ble_eq_true rfl) hD (fun p e s m args below meth c C hr => ?_)
  refine g_sub [0, 1, 2, 3] (lv2 := [(0, .ref (ad 0)), (1, .int x1), (2, .int x2), (3, .int x3)]) rfl ?_
  unfold m_X7_takenOf
  refine g_aload_n (pc := 0) C dX7_takenOf_0 (i := 0) rfl 0 rfl ?_
  refine g_iload_n (pc := 1) C dX7_takenOf_1 (i := 3) rfl 3 rfl ?_
  refine g_iconst (pc := 2) (v := 1) C dX7_takenOf_2 (by decide) ?_
  refine g_callVi (pc := 3) (As := [.int _, .int _]) C q1062 mw_X7_hasOf (fun _ hz => c_X7_hasOf C.2.2.2.2.2.2.2.1 hz) ⟨Nat.le_of_ble_eq_true rfl, Nat.le_of_ble_eq_true rfl⟩ rfl rfl 0 rfl rfl rfl (Nat.le_of_ble_eq_true rfl) dX7_takenOf_3 fun r2 S1 => ?_
  refine g_istore (pc := 6) (i := 4) (j := 0) (lv2 := [(4, .int r2), (0, .ref (ad 0)), (1, .int x1), (2, .int x2), (3, .int x3)]) C dX7_takenOf_6 (by decide) rfl ?_
  refine g_aload_n (pc := 8) C dX7_takenOf_8 (i := 0) rfl 1 rfl ?_
  refine gt_X7_stands (pc := 9) C q879 dX7_takenOf_9 ?_
  refine g_iload_n (pc := 12) C dX7_takenOf_12 (i := 1) rfl 2 rfl ?_
  refine al_X7_stands (pc := 13) C dX7_takenOf_13 ?_
  refine g_nmi fun y3 => ?_
  refine g_istore (pc := 14) (i := 5) (j := 0) (lv2 := [(5, .int y3), (4, .int r2), (0, .ref (ad 0)), (1, .int x1), (2, .int x2), (3, .int x3)]) C dX7_takenOf_14 (by decide) rfl ?_
  refine g_aload_n (pc := 16) C dX7_takenOf_16 (i := 0) rfl 2 rfl ?_
  refine gt_X7_stands (pc := 17) C q879 dX7_takenOf_17 ?_
  refine g_iload_n (pc := 20) C dX7_takenOf_20 (i := 1) rfl 3 rfl ?_
  refine g_iload_n (pc := 21) C dX7_takenOf_21 (i := 2) rfl 4 rfl ?_
  refine as_X7_stands (pc := 22) C dX7_takenOf_22 fun S4 => ?_
  refine g_aload_n (pc := 23) C dX7_takenOf_23 (i := 0) rfl 2 rfl ?_
  refine g_iload_n (pc := 24) C dX7_takenOf_24 (i := 3) rfl 5 rfl ?_
  refine g_iconst (pc := 25) (v := 1) C dX7_takenOf_25 (by decide) ?_
  refine g_callVi (pc := 26) (As := [.int _, .int _]) C q1062 mw_X7_hasOf (fun _ hz => c_X7_hasOf C.2.2.2.2.2.2.2.1 hz) ⟨Nat.le_of_ble_eq_true rfl, Nat.le_of_ble_eq_true rfl⟩ rfl rfl 0 rfl rfl rfl (Nat.le_of_ble_eq_true rfl) dX7_takenOf_26 fun r6 S5 => ?_
  refine g_istore (pc := 29) (i := 6) (j := 0) (lv2 := [(6, .int r6), (5, .int y3), (4, .int r2), (0, .ref (ad 0)), (1, .int x1), (2, .int x2), (3, .int x3)]) C dX7_takenOf_29 (by decide) rfl ?_
  refine g_aload_n (pc := 31) C dX7_takenOf_31 (i := 0) rfl 3 rfl ?_
  refine gt_X7_stands (pc := 32) C q879 dX7_takenOf_32 ?_
  refine g_iload_n (pc := 35) C dX7_takenOf_35 (i := 1) rfl 4 rfl ?_
  refine g_iload (pc := 36) C dX7_takenOf_36 1 rfl ?_
  refine as_X7_stands (pc := 38) C dX7_takenOf_38 fun S7 => ?_
  refine g_iload (pc := 39) C dX7_takenOf_39 2 rfl ?_
  refine g_iload (pc := 41) C dX7_takenOf_41 0 rfl ?_
  refine g_isub (pc := 43) C dX7_takenOf_43 ?_
  exact g_iret (pc := 44) C hr dX7_takenOf_44
noncomputable def m_X7_taken (x1 : Int32) (x2 : Int32) (x3 : Int32) (S : St) : Option (Int32 × St) :=
bnd (m_X7_isCell x1 S) fun r2 S1 =>
if r2 = 0 then (
some ((-1000002 : Int32), S1))
else
bnd (m_X7_in x2 (0 : Int32) (20 : Int32) S1) fun r4 S3 =>
if r4 = 0 then (
some ((-1000002 : Int32), S3))
else
bnd (m_X7_isFour x3 S3) fun r6 S5 =>
if r6 = 0 then (
some ((-1000002 : Int32), S5))
else
bnd (m_X7_takenOf x1 x2 x3 S5) fun r8 S7 =>
some (r8, S7)
set_option maxRecDepth 20000 in
theorem c_X7_taken {l : Launch} {D : va_G} {ad : Nat → Nat} {cI cJ cZ : ClassId} {n : Nat} (hD : ∀ sz S, va_D (Adr ad n sz) (wM ad cI cJ cZ S)) {x1 : Int32} {x2 : Int32} {x3 : Int32} {S : St} {z : Int32 × St} (hf : m_X7_taken x1 x2 x3 S = some z) : CtI l yX7_taken cX7_taken 4 (some .int) ({ frames := 6, cells := 0, slots := 0, locals := 147 } : Room) D (wM ad cI cJ cZ) (tyX cI cJ cZ) ad n [.ref (ad 0), .int x1, .int x2, .int x3] S z := by
  refine CtI.of hf (by decide +kernel) (Nat.le_of_ble_eq_true rfl) hD (fun p e s m args below meth c C hr => ?_)
  refine g_sub [0, 1, 2, 3] (lv2 := [(0, .ref (ad 0)), (1, .int x1), (2, .int x2), (3, .int x3)]) rfl ?_
  unfold m_X7_taken
  refine g_aload_n (pc := 0) C dX7_taken_0 (i := 0) rfl 0 rfl ?_
  refine g_iload_n (pc := 1) C dX7_taken_1 (i := 1) rfl 1 rfl ?_
  refine g_callVi (pc := 2) (As := [.int _]) C q983 mw_X7_isCell (fun _ hz => c_X7_isCell C.2.2.2.2.2.2.2.1 hz) ⟨Nat.le_of_ble_eq_true rfl, Nat.le_of_ble_eq_true rfl⟩ rfl rfl 0 rfl rfl rfl (Nat.le_of_ble_eq_true rfl) dX7_taken_2 fun r2 S1 => ?_
  refine g_if_eq (pc := 5) (tgt := 35) C dX7_taken_5 (by decide) ?_ ?_
  · refine g_ldc (pc := 35) C q1113 dX7_taken_35 ?_
    exact g_iret (pc := 37) C hr dX7_taken_37
  · refine g_iload_n (pc := 8) C dX7_taken_8 (i := 2) rfl 2 rfl ?_
    refine g_iconst (pc := 9) (v := 0) C dX7_taken_9 (by decide) ?_
    refine g_bipush (pc := 10) (v := 20) C dX7_taken_10 (by decide) ?_
    refine g_callSi (pc := 12) (As := [.int _, .int _, .int _]) C q960 mw_X7_in (fun _ hz => c_X7_in C.2.2.2.2.2.2.2.1 hz) ⟨Nat.le_of_ble_eq_true rfl, Nat.le_of_ble_eq_true rfl⟩ rfl rfl rfl (Nat.le_of_ble_eq_true rfl) dX7_taken_12 fun r4 S3 => ?_
    refine g_if_eq (pc := 15) (tgt := 35) C dX7_taken_15 (by decide) ?_ ?_
    · refine g_ldc (pc := 35) C q1113 dX7_taken_35 ?_
      exact g_iret (pc := 37) C hr dX7_taken_37
    · refine g_iload_n (pc := 18) C dX7_taken_18 (i := 3) rfl 3 rfl ?_
      refine g_callSi (pc := 19) (As := [.int _]) C q1002 mw_X7_isFour (fun _ hz => c_X7_isFour C.2.2.2.2.2.2.2.1 hz) ⟨Nat.le_of_ble_eq_true rfl, Nat.le_of_ble_eq_true rfl⟩ rfl rfl rfl (Nat.le_of_ble_eq_true rfl) dX7_taken_19 fun r6 S5 => ?_
      refine g_if_eq (pc := 22) (tgt := 35) C dX7_taken_22 (by decide) ?_ ?_
      · refine g_ldc (pc := 35) C q1113 dX7_taken_35 ?_
        exact g_iret (pc := 37) C hr dX7_taken_37
      · refine g_aload_n (pc := 25) C dX7_taken_25 (i := 0) rfl 0 rfl ?_
        refine g_iload_n (pc := 26) C dX7_taken_26 (i := 1) rfl 1 rfl ?_
        refine g_iload_n (pc := 27) C dX7_taken_27 (i := 2) rfl 2 rfl ?_
        refine g_iload_n (pc := 28) C dX7_taken_28 (i := 3) rfl 3 rfl ?_
        refine g_callVi (pc := 29) (As := [.int _, .int _, .int _]) C q1109 mw_X7_takenOf (fun _ hz => c_X7_takenOf C.2.2.2.2.2.2.2.1 hz) ⟨Nat.le_of_ble_eq_true rfl, Nat.le_of_ble_eq_true rfl⟩ rfl rfl 0 rfl rfl rfl (Nat.le_of_ble_eq_true rfl) dX7_taken_29 fun r8 S7 => ?_
        refine g_goto (pc := 32) (tgt := 37) C dX7_taken_32 (by decide) ?_
        exact g_iret (pc := 37) C hr dX7_taken_37
noncomputable def b_X7_highestOf_18 (x1 : Int32) (x2 : Int32) (x3 : Int32) (x4 : Int32) (k : Int32 → St → Option (Int32 × St)) (rec : Int32 → Int32 → St → Option (Int32 × St)) (x5 : Int32) (x6 : Int32) (S : St) : Option (Int32 × St) :=
if x6 < (4 : Int32) then (
if x5 = 0 then (
rec (0 : Int32) (x6 + 1) S)
else
bnd (m_X7_takenOf x1 x4 x6 S) fun r2 S1 =>
if x2 < r2 then (
rec (0 : Int32) (x6 + 1) S1)
else
rec (1 : Int32) (x6 + 1) S1)
else
k x5 S
noncomputable def b_X7_highestOf_5 (x1 : Int32) (x2 : Int32) (k : Int32 → St → Option (Int32 × St)) (rec : Int32 → Int32 → St → Option (Int32 × St)) (x3 : Int32) (x4 : Int32) (S : St) : Option (Int32 × St) :=
if (20 : Int32) < x4 then (
k x3 S)
else
it2 (b_X7_highestOf_18 x1 x2 x3 x4 (fun x5_S3 S3 =>
if x5_S3 = 0 then (
rec x3 (x4 + 1) S3)
else
rec x4 (x4 + 1) S3)) 5000 (1 : Int32) (0 : Int32) S
noncomputable def m_X7_highestOf (x1 : Int32) (x2 : Int32) (S : St) : Option (Int32 × St) :=
it2 (b_X7_highestOf_5 x1 x2 (fun x3_S4 S4 =>
some (x3_S4, S4))) 5000 (-1 : Int32) (0 : Int32) S
set_option maxRecDepth 20000 in
theorem u_X7_highestOf_18 (C : Cx p s m args meth c cX7_highestOf 7 RX7 D (tyX cI cJ cZ) ad n (wM ad cI cJ cZ)) (hr : meth.sig.returnType = (some .int)) (x1 : Int32) (x2 : Int32) (x3 : Int32) (x4 : Int32) (k : Int32 → St → Option (Int32 × St)) (hk : ∀ (x5 : Int32) (S : St), GM p l e ({ frames := 6, cells := 0, slots := 0, locals := 147 } : Room) s m args below meth c D ad n (wM ad cI cJ cZ) 7 (QI D (wM ad cI cJ cZ) ad n args s below) (k x5 S) S 55 [(0, .ref (ad 0)), (1, .int x1), (2, .int x2), (3, .int x3), (4, .int x4), (5, .int x5)] []) (rec : Int32 → Int32 → St → Option (Int32 × St)) (hrec : ∀ (x5 : Int32) (x6 : Int32) (S : St), GM p l e ({ frames := 6, cells := 0, slots := 0, locals := 147 } : Room) s m args below meth c D ad n (wM ad cI cJ cZ) 7 (QI D (wM ad cI cJ cZ) ad n args s below) (rec x5 x6 S) S 18 [(0, .ref (ad 0)), (1, .int x1), (2, .int x2), (3, .int x3), (4, .int x4), (5, .int x5), (6, .int x6)] []) (x5 : Int32) (x6 : Int32) (S : St) : GM p l e ({ frames := 6, cells := 0, slots := 0, locals := 147 } : Room) s m args below meth c D ad n (wM ad cI cJ cZ) 7 (QI D (wM ad cI cJ cZ) ad n args s below) (b_X7_highestOf_18 x1 x2 x3 x4 k rec x5 x6 S) S 18 [(0, .ref (ad 0)), (1, .int x1), (2, .int x2), (3, .int x3), (4, .int x4), (5, .int x5), (6, .int x6)] [] := by
  unfold b_X7_highestOf_18
  refine g_iload (pc := 18) C dX7_highestOf_18 6 rfl ?_
  refine g_iconst (pc := 20) (v := 4) C dX7_highestOf_20 (by decide) ?_
  refine g_icmp_ge (pc := 21) (tgt := 55) C dX7_highestOf_21 (by decide) ?_ ?_
  · refine g_sub [0, 1, 2, 3, 4, 5] rfl (hk _ _)
  · refine g_iload (pc := 24) C dX7_highestOf_24 5 rfl ?_
    refine g_if_eq (pc := 26) (tgt := 46) C dX7_highestOf_26 (by decide) ?_ ?_
    · refine g_iconst (pc := 46) (v := 0) C dX7_highestOf_46 (by decide) ?_
      refine g_istore (pc := 47) (i := 5) (j := 0) (lv2 := [(5, .int (0 : Int32)), (0, .ref (ad 0)), (1, .int x1), (2, .int x2), (3, .int x3), (4, .int x4), (6, .int x6)]) C dX7_highestOf_47 (by decide) rfl ?_
      refine g_iinc (pc := 49) (v := (x6 + 1)) (lv2 := [(6, .int (x6 + 1)), (5, .int (0 : Int32)), (0, .ref (ad 0)), (1, .int x1), (2, .int x2), (3, .int x3), (4, .int x4)]) C dX7_highestOf_49 6 rfl rfl (by decide) rfl ?_
      refine g_goto (pc := 52) (tgt := 18) C dX7_highestOf_52 (by decide) ?_
      refine g_sub [2, 3, 4, 5, 6, 1, 0] rfl (hrec _ _ _)
    · refine g_aload_n (pc := 29) C dX7_highestOf_29 (i := 0) rfl 0 rfl ?_
      refine g_iload_n (pc := 30) C dX7_highestOf_30 (i := 1) rfl 1 rfl ?_
      refine g_iload (pc := 31) C dX7_highestOf_31 4 rfl ?_
      refine g_iload (pc := 33) C dX7_highestOf_33 6 rfl ?_
      refine g_callVi (pc := 35) (As := [.int _, .int _, .int _]) C q1109 mw_X7_takenOf (fun _ hz => c_X7_takenOf C.2.2.2.2.2.2.2.1 hz) ⟨Nat.le_of_ble_eq_true rfl, Nat.le_of_ble_eq_true rfl⟩ rfl rfl 0 rfl rfl rfl (Nat.le_of_ble_eq_true rfl) dX7_highestOf_35 fun r2 S1 => ?_
      refine g_iload_n (pc := 38) C dX7_highestOf_38 (i := 2) rfl 2 rfl ?_
      refine g_icmp_gt (pc := 39) (tgt := 46) C dX7_highestOf_39 (by decide) ?_ ?_
      · refine g_iconst (pc := 46) (v := 0) C dX7_highestOf_46 (by decide) ?_
        refine g_istore (pc := 47) (i := 5) (j := 0) (lv2 := [(5, .int (0 : Int32)), (0, .ref (ad 0)), (1, .int x1), (2, .int x2), (3, .int x3), (4, .int x4), (6, .int x6)]) C dX7_highestOf_47 (by decide) rfl ?_
        refine g_iinc (pc := 49) (v := (x6 + 1)) (lv2 := [(6, .int (x6 + 1)), (5, .int (0 : Int32)), (0, .ref (ad 0)), (1, .int x1), (2, .int x2), (3, .int x3), (4, .int x4)]) C dX7_highestOf_49 6 rfl rfl (by decide) rfl ?_
        refine g_goto (pc := 52) (tgt := 18) C dX7_highestOf_52 (by decide) ?_
        refine g_sub [2, 3, 4, 5, 6, 1, 0] rfl (hrec _ _ _)
      · refine g_iconst (pc := 42) (v := 1) C dX7_highestOf_42 (by decide) ?_
        refine g_goto (pc := 43) (tgt := 47) C dX7_highestOf_43 (by decide) ?_
        refine g_istore (pc := 47) (i := 5) (j := 0) (lv2 := [(5, .int (1 : Int32)), (0, .ref (ad 0)), (1, .int x1), (2, .int x2), (3, .int x3), (4, .int x4), (6, .int x6)]) C dX7_highestOf_47 (by decide) rfl ?_
        refine g_iinc (pc := 49) (v := (x6 + 1)) (lv2 := [(6, .int (x6 + 1)), (5, .int (1 : Int32)), (0, .ref (ad 0)), (1, .int x1), (2, .int x2), (3, .int x3), (4, .int x4)]) C dX7_highestOf_49 6 rfl rfl (by decide) rfl ?_
        refine g_goto (pc := 52) (tgt := 18) C dX7_highestOf_52 (by decide) ?_
        refine g_sub [2, 3, 4, 5, 6, 1, 0] rfl (hrec _ _ _)
set_option maxRecDepth 20000 in
theorem u_X7_highestOf_5 (C : Cx p s m args meth c cX7_highestOf 7 RX7 D (tyX cI cJ cZ) ad n (wM ad cI cJ cZ)) (hr : meth.sig.returnType = (some .int)) (x1 : Int32) (x2 : Int32) (k : Int32 → St → Option (Int32 × St)) (hk : ∀ (x3 : Int32) (S : St), GM p l e ({ frames := 6, cells := 0, slots := 0, locals := 147 } : Room) s m args below meth c D ad n (wM ad cI cJ cZ) 7 (QI D (wM ad cI cJ cZ) ad n args s below) (k x3 S) S 73 [(3, .int x3)] []) (rec : Int32 → Int32 → St → Option (Int32 × St)) (hrec : ∀ (x3 : Int32) (x4 : Int32) (S : St), GM p l e ({ frames := 6, cells := 0, slots := 0, locals := 147 } : Room) s m args below meth c D ad n (wM ad cI cJ cZ) 7 (QI D (wM ad cI cJ cZ) ad n args s below) (rec x3 x4 S) S 5 [(0, .ref (ad 0)), (1, .int x1), (2, .int x2), (3, .int x3), (4, .int x4)] []) (x3 : Int32) (x4 : Int32) (S : St) : GM p l e ({ frames := 6, cells := 0, slots := 0, locals := 147 } : Room) s m args below meth c D ad n (wM ad cI cJ cZ) 7 (QI D (wM ad cI cJ cZ) ad n args s below) (b_X7_highestOf_5 x1 x2 k rec x3 x4 S) S 5 [(0, .ref (ad 0)), (1, .int x1), (2, .int x2), (3, .int x3), (4, .int x4)] [] := by
  unfold b_X7_highestOf_5
  refine g_iload (pc := 5) C dX7_highestOf_5 4 rfl ?_
  refine g_bipush (pc := 7) (v := 20) C dX7_highestOf_7 (by decide) ?_
  refine g_icmp_gt (pc := 9) (tgt := 73) C dX7_highestOf_9 (by decide) ?_ ?_
  · refine g_sub [3] rfl (hk _ _)
  · refine g_iconst (pc := 12) (v := 1) C dX7_highestOf_12 (by decide) ?_
    refine g_istore (pc := 13) (i := 5) (j := 0) (lv2 := [(5, .int (1 : Int32)), (0, .ref (ad 0)), (1, .int x1), (2, .int x2), (3, .int x3), (4, .int x4)]) C dX7_highestOf_13 (by decide) rfl ?_
    refine g_iconst (pc := 15) (v := 0) C dX7_highestOf_15 (by decide) ?_
    refine g_istore (pc := 16) (i := 6) (j := 0) (lv2 := [(6, .int (0 : Int32)), (5, .int (1 : Int32)), (0, .ref (ad 0)), (1, .int x1), (2, .int x2), (3, .int x3), (4, .int x4)]) C dX7_highestOf_16 (by decide) rfl ?_
    refine g_sub [2, 3, 4, 5, 6, 1, 0] (lv2 := [(0, .ref (ad 0)), (1, .int x1), (2, .int x2), (3, .int x3), (4, .int x4), (5, .int (1 : Int32)), (6, .int (0 : Int32))]) rfl ?_
    refine g_it2 (pc := 18) (u_X7_highestOf_18 C hr _ _ _ _ _ fun x5_S3 S3 => ?_) _ _ _ _
    refine g_iload (pc := 55) C dX7_highestOf_55 5 rfl ?_
    refine g_if_eq (pc := 57) (tgt := 65) C dX7_highestOf_57 (by decide) ?_ ?_
    · refine g_iload_n (pc := 65) C dX7_highestOf_65 (i := 3) rfl 3 rfl ?_
      refine g_istore_n (pc := 66) (i := 3) (lv2 := [(3, .int x3), (0, .ref (ad 0)), (1, .int x1), (2, .int x2), (4, .int x4), (5, .int x5_S3)]) C dX7_highestOf_66 rfl (by decide) rfl ?_
      refine g_iinc (pc := 67) (v := (x4 + 1)) (lv2 := [(4, .int (x4 + 1)), (3, .int x3), (0, .ref (ad 0)), (1, .int x1), (2, .int x2), (5, .int x5_S3)]) C dX7_highestOf_67 4 rfl rfl (by decide) rfl ?_
      refine g_goto (pc := 70) (tgt := 5) C dX7_highestOf_70 (by decide) ?_
      refine g_sub [2, 3, 4, 1, 0] rfl (hrec _ _ _)
    · refine g_iload (pc := 60) C dX7_highestOf_60 4 rfl ?_
      refine g_goto (pc := 62) (tgt := 66) C dX7_highestOf_62 (by decide) ?_
      refine g_istore_n (pc := 66) (i := 3) (lv2 := [(3, .int x4), (0, .ref (ad 0)), (1, .int x1), (2, .int x2), (4, .int x4), (5, .int x5_S3)]) C dX7_highestOf_66 rfl (by decide) rfl ?_
      refine g_iinc (pc := 67) (v := (x4 + 1)) (lv2 := [(4, .int (x4 + 1)), (3, .int x4), (0, .ref (ad 0)), (1, .int x1), (2, .int x2), (5, .int x5_S3)]) C dX7_highestOf_67 4 rfl rfl (by decide) rfl ?_
      refine g_goto (pc := 70) (tgt := 5) C dX7_highestOf_70 (by decide) ?_
      refine g_sub [2, 3, 4, 1, 0] rfl (hrec _ _ _)
set_option maxRecDepth 20000 in
theorem c_X7_highestOf {l : Launch} {D : va_G} {ad : Nat → Nat} {cI cJ cZ : ClassId} {n : Nat} (hD : ∀ sz S, va_D (Adr ad n sz) (wM ad cI cJ cZ S)) {x1 : Int32} {x2 : Int32} {S : St} {z : Int32 × St} (hf : m_X7_highestOf x1 x2 S = some z) : CtI l yX7_highestOf cX7_highestOf 7 (some .int) ({ frames := 6, cells := 0, slots := 0, locals := 147 } : Room) D (wM ad cI cJ cZ) (tyX cI cJ cZ) ad n [.ref (ad 0), .int x1, .int x2] S z := by
  refine CtI.of hf (by decide +kernel) (Nat.le_of_ble_eq_true rfl) hD (fun p e s m args below meth c C hr => ?_)
  refine g_sub [0, 1, 2] (lv2 := [(0, .ref (ad 0)), (1, .int x1), (2, .int x2)]) rfl ?_
  unfold m_X7_highestOf
  refine g_iconst (pc := 0) (v := -1) C dX7_highestOf_0 (by decide) ?_
  refine g_istore_n (pc := 1) (i := 3) (lv2 := [(3, .int (-1 : Int32)), (0, .ref (ad 0)), (1, .int x1), (2, .int x2)]) C dX7_highestOf_1 rfl (by decide) rfl ?_
  refine g_iconst (pc := 2) (v := 0) C dX7_highestOf_2 (by decide) ?_
  refine g_istore (pc := 3) (i := 4) (j := 0) (lv2 := [(4, .int (0 : Int32)), (3, .int (-1 : Int32)), (0, .ref (ad 0)), (1, .int x1), (2, .int x2)]) C dX7_highestOf_3 (by decide) rfl ?_
  refine g_sub [2, 3, 4, 1, 0] (lv2 := [(0, .ref (ad 0)), (1, .int x1), (2, .int x2), (3, .int (-1 : Int32)), (4, .int (0 : Int32))]) rfl ?_
  refine g_it2 (pc := 5) (u_X7_highestOf_5 C hr _ _ _ fun x3_S4 S4 => ?_) _ _ _ _
  refine g_iload_n (pc := 73) C dX7_highestOf_73 (i := 3) rfl 0 rfl ?_
  exact g_iret (pc := 74) C hr dX7_highestOf_74
noncomputable def m_X7_highest (x1 : Int32) (x2 : Int32) (S : St) : Option (Int32 × St) :=
bnd (m_X7_isCell x1 S) fun r2 S1 =>
if r2 = 0 then (
some ((-2 : Int32), S1))
else
bnd (m_X7_in x2 (0 : Int32) (99999 : Int32) S1) fun r4 S3 =>
if r4 = 0 then (
some ((-2 : Int32), S3))
else
bnd (m_X7_highestOf x1 x2 S3) fun r6 S5 =>
some (r6, S5)
set_option maxRecDepth 20000 in
theorem c_X7_highest {l : Launch} {D : va_G} {ad : Nat → Nat} {cI cJ cZ : ClassId} {n : Nat} (hD : ∀ sz S, va_D (Adr ad n sz) (wM ad cI cJ cZ S)) {x1 : Int32} {x2 : Int32} {S : St} {z : Int32 × St} (hf : m_X7_highest x1 x2 S = some z) : CtI l yX7_highest cX7_highest 3 (some .int) ({ frames := 7, cells := 0, slots := 0, locals := 173 } : Room) D (wM ad cI cJ cZ) (tyX cI cJ cZ) ad n [.ref (ad 0), .int x1, .int x2] S z := by
  refine CtI.of hf (by decide +kernel) (Nat.le_of_ble_eq_true rfl) hD (fun p e s m args below meth c C hr => ?_)
  refine g_sub [0, 1, 2] (lv2 := [(0, .ref (ad 0)), (1, .int x1), (2, .int x2)]) rfl ?_
  unfold m_X7_highest
  refine g_aload_n (pc := 0) C dX7_highest_0 (i := 0) rfl 0 rfl ?_
  refine g_iload_n (pc := 1) C dX7_highest_1 (i := 1) rfl 1 rfl ?_
  refine g_callVi (pc := 2) (As := [.int _]) C q983 mw_X7_isCell (fun _ hz => c_X7_isCell C.2.2.2.2.2.2.2.1 hz) ⟨Nat.le_of_ble_eq_true rfl, Nat.le_of_ble_eq_true rfl⟩ rfl rfl 0 rfl rfl rfl (Nat.le_of_ble_eq_true rfl) dX7_highest_2 fun r2 S1 => ?_
  refine g_if_eq (pc := 5) (tgt := 27) C dX7_highest_5 (by decide) ?_ ?_
  · refine g_bipush (pc := 27) (v := -2) C dX7_highest_27 (by decide) ?_
    exact g_iret (pc := 29) C hr dX7_highest_29
  · refine g_iload_n (pc := 8) C dX7_highest_8 (i := 2) rfl 2 rfl ?_
    refine g_iconst (pc := 9) (v := 0) C dX7_highest_9 (by decide) ?_
    refine g_ldc (pc := 10) C q1118 dX7_highest_10 ?_
    refine g_callSi (pc := 12) (As := [.int _, .int _, .int _]) C q960 mw_X7_in (fun _ hz => c_X7_in C.2.2.2.2.2.2.2.1 hz) ⟨Nat.le_of_ble_eq_true rfl, Nat.le_of_ble_eq_true rfl⟩ rfl rfl rfl (Nat.le_of_ble_eq_true rfl) dX7_highest_12 fun r4 S3 => ?_
    refine g_if_eq (pc := 15) (tgt := 27) C dX7_highest_15 (by decide) ?_ ?_
    · refine g_bipush (pc := 27) (v := -2) C dX7_highest_27 (by decide) ?_
      exact g_iret (pc := 29) C hr dX7_highest_29
    · refine g_aload_n (pc := 18) C dX7_highest_18 (i := 0) rfl 0 rfl ?_
      refine g_iload_n (pc := 19) C dX7_highest_19 (i := 1) rfl 1 rfl ?_
      refine g_iload_n (pc := 20) C dX7_highest_20 (i := 2) rfl 2 rfl ?_
      refine g_callVi (pc := 21) (As := [.int _, .int _]) C q1119 mw_X7_highestOf (fun _ hz => c_X7_highestOf C.2.2.2.2.2.2.2.1 hz) ⟨Nat.le_of_ble_eq_true rfl, Nat.le_of_ble_eq_true rfl⟩ rfl rfl 0 rfl rfl rfl (Nat.le_of_ble_eq_true rfl) dX7_highest_21 fun r6 S5 => ?_
      refine g_goto (pc := 24) (tgt := 29) C dX7_highest_24 (by decide) ?_
      exact g_iret (pc := 29) C hr dX7_highest_29
noncomputable def b_X7_againOf_57 (x2 : Int32) (x3 : Int32) (x4 : Int32) (k : Int32 → St → Option (Int32 × St)) (rec : Int32 → Int32 → St → Option (Int32 × St)) (x6 : Int32) (x7 : Int32) (S : St) : Option (Int32 × St) :=
bnd (m_X7_all S) fun r9 S8 =>
if x7 < r9 then (
bnd (m_X7_differs x7 S8) fun r11 S10 =>
if x2 < r11 then (
if (0 : Int32) = 0 then (
rec x6 (x7 + 2) S10)
else
bnd (m_X7_isParting x7 S10) fun r13 S12 =>
if r13 = 0 then (
rec x6 (x7 + 2) S12)
else
rec x7 (x7 + 2) S12)
else
if x6 = (-1 : Int32) then (
if (1 : Int32) = 0 then (
rec x6 (x7 + 2) S10)
else
bnd (m_X7_isParting x7 S10) fun r15 S14 =>
if r15 = 0 then (
rec x6 (x7 + 2) S14)
else
rec x7 (x7 + 2) S14)
else
bnd (m_X7_ones (x7 ^^^ x4) S10) fun r17 S16 =>
bnd (m_X7_ones (x6 ^^^ x4) S16) fun r19 S18 =>
if r17 < r19 then (
if (1 : Int32) = 0 then (
rec x6 (x7 + 2) S18)
else
bnd (m_X7_isParting x7 S18) fun r23 S22 =>
if r23 = 0 then (
rec x6 (x7 + 2) S22)
else
rec x7 (x7 + 2) S22)
else
if (0 : Int32) = 0 then (
rec x6 (x7 + 2) S18)
else
bnd (m_X7_isParting x7 S18) fun r21 S20 =>
if r21 = 0 then (
rec x6 (x7 + 2) S20)
else
rec x7 (x7 + 2) S20)
else
k x6 S8
noncomputable def m_X7_againOf (x1 : Int32) (x2 : Int32) (x3 : Int32) (S : St) : Option (Int32 × St) :=
bnd (m_X7_partsNow S) fun r2 S1 =>
chk x1 12 <|
if (gI S1 3 (ix x1)) = 0 then (
some ((-3 : Int32), S1))
else
if r2 = (-1 : Int32) then (
some ((-3 : Int32), S1))
else
chk x1 12 <|
nm ((gI S1 3 (ix x1))) fun y3 =>
chk x1 12 <|
nm (sI S1 3 (ix x1) (0 : Int32)) fun S4 =>
bndV (m_X7_laysYears S4) fun S5 =>
chk x1 12 <|
nm (sI S5 3 (ix x1) y3) fun S7 =>
it2 (b_X7_againOf_57 x2 x3 r2 (fun x6_S24 S24 =>
if x6_S24 = (-1 : Int32) then (
some (x6_S24, S24))
else
if x3 = (1 : Int32) then (
some (x6_S24, S24))
else
bnd (m_X7_ones (x6_S24 ^^^ r2) S24) fun r26 S25 =>
some (r26, S25))) 5000 (-1 : Int32) (1 : Int32) S7
set_option maxRecDepth 20000 in
theorem u_X7_againOf_57 (C : Cx p s m args meth c cX7_againOf 9 RX7 D (tyX cI cJ cZ) ad n (wM ad cI cJ cZ)) (hr : meth.sig.returnType = (some .int)) (x2 : Int32) (x3 : Int32) (x4 : Int32) (k : Int32 → St → Option (Int32 × St)) (hk : ∀ (x6 : Int32) (S : St), GM p l e ({ frames := 6, cells := 0, slots := 0, locals := 140 } : Room) s m args below meth c D ad n (wM ad cI cJ cZ) 9 (QI D (wM ad cI cJ cZ) ad n args s below) (k x6 S) S 137 [(3, .int x3), (4, .int x4), (6, .int x6)] []) (rec : Int32 → Int32 → St → Option (Int32 × St)) (hrec : ∀ (x6 : Int32) (x7 : Int32) (S : St), GM p l e ({ frames := 6, cells := 0, slots := 0, locals := 140 } : Room) s m args below meth c D ad n (wM ad cI cJ cZ) 9 (QI D (wM ad cI cJ cZ) ad n args s below) (rec x6 x7 S) S 57 [(0, .ref (ad 0)), (2, .int x2), (3, .int x3), (4, .int x4), (6, .int x6), (7, .int x7)] []) (x6 : Int32) (x7 : Int32) (S : St) : GM p l e ({ frames := 6, cells := 0, slots := 0, locals := 140 } : Room) s m args below meth c D ad n (wM ad cI cJ cZ) 9 (QI D (wM ad cI cJ cZ) ad n args s below) (b_X7_againOf_57 x2 x3 x4 k rec x6 x7 S) S 57 [(0, .ref (ad 0)), (2, .int x2), (3, .int x3), (4, .int x4), (6, .int x6), (7, .int x7)] [] := by
  unfold b_X7_againOf_57
  refine g_iload (pc := 57) C dX7_againOf_57 5 rfl ?_
  refine g_aload_n (pc := 59) C dX7_againOf_59 (i := 0) rfl 0 rfl ?_
  refine g_callVi (pc := 60) (As := []) C q1082 mw_X7_all (fun _ hz => c_X7_all C.2.2.2.2.2.2.2.1 hz) ⟨Nat.le_of_ble_eq_true rfl, Nat.le_of_ble_eq_true rfl⟩ rfl rfl 0 rfl rfl rfl (Nat.le_of_ble_eq_true rfl) dX7_againOf_60 fun r9 S8 => ?_
  refine g_icmp_ge (pc := 63) (tgt := 137) C dX7_againOf_63 (by decide) ?_ ?_
  · refine g_sub [2, 3, 4] rfl (hk _ _)
  · refine g_aload_n (pc := 66) C dX7_againOf_66 (i := 0) rfl 0 rfl ?_
    refine g_iload (pc := 67) C dX7_againOf_67 5 rfl ?_
    refine g_callVi (pc := 69) (As := [.int _]) C q1086 mw_X7_differs (fun _ hz => c_X7_differs C.2.2.2.2.2.2.2.1 hz) ⟨Nat.le_of_ble_eq_true rfl, Nat.le_of_ble_eq_true rfl⟩ rfl rfl 0 rfl rfl rfl (Nat.le_of_ble_eq_true rfl) dX7_againOf_69 fun r11 S10 => ?_
    refine g_iload_n (pc := 72) C dX7_againOf_72 (i := 2) rfl 1 rfl ?_
    refine g_icmp_gt (pc := 73) (tgt := 105) C dX7_againOf_73 (by decide) ?_ ?_
    · refine g_iconst (pc := 105) (v := 0) C dX7_againOf_105 (by decide) ?_
      refine g_istore (pc := 106) (i := 8) (j := 0) (lv2 := [(8, .int (0 : Int32)), (0, .ref (ad 0)), (2, .int x2), (3, .int x3), (4, .int x4), (6, .int x6), (7, .int x7)]) C dX7_againOf_106 (by decide) rfl ?_
      refine g_iload (pc := 108) C dX7_againOf_108 0 rfl ?_
      refine g_if_eq (pc := 110) (tgt := 127) C dX7_againOf_110 (by decide) ?_ ?_
      · refine g_iload (pc := 127) C dX7_againOf_127 5 rfl ?_
        refine g_istore (pc := 129) (i := 6) (j := 0) (lv2 := [(6, .int x6), (8, .int (0 : Int32)), (0, .ref (ad 0)), (2, .int x2), (3, .int x3), (4, .int x4), (7, .int x7)]) C dX7_againOf_129 (by decide) rfl ?_
        refine g_iinc (pc := 131) (v := (x7 + 2)) (lv2 := [(7, .int (x7 + 2)), (6, .int x6), (8, .int (0 : Int32)), (0, .ref (ad 0)), (2, .int x2), (3, .int x3), (4, .int x4)]) C dX7_againOf_131 6 rfl rfl (by decide) rfl ?_
        refine g_goto (pc := 134) (tgt := 57) C dX7_againOf_134 (by decide) ?_
        refine g_sub [3, 4, 5, 6, 1, 0] rfl (hrec _ _ _)
      · refine g_aload_n (pc := 113) C dX7_againOf_113 (i := 0) rfl 1 rfl ?_
        refine g_iload (pc := 114) C dX7_againOf_114 6 rfl ?_
        refine g_callVi (pc := 116) (As := [.int _]) C q1093 mw_X7_isParting (fun _ hz => c_X7_isParting C.2.2.2.2.2.2.2.1 hz) ⟨Nat.le_of_ble_eq_true rfl, Nat.le_of_ble_eq_true rfl⟩ rfl rfl 0 rfl rfl rfl (Nat.le_of_ble_eq_true rfl) dX7_againOf_116 fun r13 S12 => ?_
        refine g_if_eq (pc := 119) (tgt := 127) C dX7_againOf_119 (by decide) ?_ ?_
        · refine g_iload (pc := 127) C dX7_againOf_127 5 rfl ?_
          refine g_istore (pc := 129) (i := 6) (j := 0) (lv2 := [(6, .int x6), (8, .int (0 : Int32)), (0, .ref (ad 0)), (2, .int x2), (3, .int x3), (4, .int x4), (7, .int x7)]) C dX7_againOf_129 (by decide) rfl ?_
          refine g_iinc (pc := 131) (v := (x7 + 2)) (lv2 := [(7, .int (x7 + 2)), (6, .int x6), (8, .int (0 : Int32)), (0, .ref (ad 0)), (2, .int x2), (3, .int x3), (4, .int x4)]) C dX7_againOf_131 6 rfl rfl (by decide) rfl ?_
          refine g_goto (pc := 134) (tgt := 57) C dX7_againOf_134 (by decide) ?_
          refine g_sub [3, 4, 5, 6, 1, 0] rfl (hrec _ _ _)
        · refine g_iload (pc := 122) C dX7_againOf_122 6 rfl ?_
          refine g_goto (pc := 124) (tgt := 129) C dX7_againOf_124 (by decide) ?_
          refine g_istore (pc := 129) (i := 6) (j := 0) (lv2 := [(6, .int x7), (8, .int (0 : Int32)), (0, .ref (ad 0)), (2, .int x2), (3, .int x3), (4, .int x4), (7, .int x7)]) C dX7_againOf_129 (by decide) rfl ?_
          refine g_iinc (pc := 131) (v := (x7 + 2)) (lv2 := [(7, .int (x7 + 2)), (6, .int x7), (8, .int (0 : Int32)), (0, .ref (ad 0)), (2, .int x2), (3, .int x3), (4, .int x4)]) C dX7_againOf_131 6 rfl rfl (by decide) rfl ?_
          refine g_goto (pc := 134) (tgt := 57) C dX7_againOf_134 (by decide) ?_
          refine g_sub [3, 4, 5, 6, 1, 0] rfl (hrec _ _ _)
    · refine g_iload (pc := 76) C dX7_againOf_76 4 rfl ?_
      refine g_iconst (pc := 78) (v := -1) C dX7_againOf_78 (by decide) ?_
      refine g_icmp_eq (pc := 79) (tgt := 101) C dX7_againOf_79 (by decide) ?_ ?_
      · refine g_iconst (pc := 101) (v := 1) C dX7_againOf_101 (by decide) ?_
        refine g_goto (pc := 102) (tgt := 106) C dX7_againOf_102 (by decide) ?_
        refine g_istore (pc := 106) (i := 8) (j := 0) (lv2 := [(8, .int (1 : Int32)), (0, .ref (ad 0)), (2, .int x2), (3, .int x3), (4, .int x4), (6, .int x6), (7, .int x7)]) C dX7_againOf_106 (by decide) rfl ?_
        refine g_iload (pc := 108) C dX7_againOf_108 0 rfl ?_
        refine g_if_eq (pc := 110) (tgt := 127) C dX7_againOf_110 (by decide) ?_ ?_
        · refine g_iload (pc := 127) C dX7_againOf_127 5 rfl ?_
          refine g_istore (pc := 129) (i := 6) (j := 0) (lv2 := [(6, .int x6), (8, .int (1 : Int32)), (0, .ref (ad 0)), (2, .int x2), (3, .int x3), (4, .int x4), (7, .int x7)]) C dX7_againOf_129 (by decide) rfl ?_
          refine g_iinc (pc := 131) (v := (x7 + 2)) (lv2 := [(7, .int (x7 + 2)), (6, .int x6), (8, .int (1 : Int32)), (0, .ref (ad 0)), (2, .int x2), (3, .int x3), (4, .int x4)]) C dX7_againOf_131 6 rfl rfl (by decide) rfl ?_
          refine g_goto (pc := 134) (tgt := 57) C dX7_againOf_134 (by decide) ?_
          refine g_sub [3, 4, 5, 6, 1, 0] rfl (hrec _ _ _)
        · refine g_aload_n (pc := 113) C dX7_againOf_113 (i := 0) rfl 1 rfl ?_
          refine g_iload (pc := 114) C dX7_againOf_114 6 rfl ?_
          refine g_callVi (pc := 116) (As := [.int _]) C q1093 mw_X7_isParting (fun _ hz => c_X7_isParting C.2.2.2.2.2.2.2.1 hz) ⟨Nat.le_of_ble_eq_true rfl, Nat.le_of_ble_eq_true rfl⟩ rfl rfl 0 rfl rfl rfl (Nat.le_of_ble_eq_true rfl) dX7_againOf_116 fun r15 S14 => ?_
          refine g_if_eq (pc := 119) (tgt := 127) C dX7_againOf_119 (by decide) ?_ ?_
          · refine g_iload (pc := 127) C dX7_againOf_127 5 rfl ?_
            refine g_istore (pc := 129) (i := 6) (j := 0) (lv2 := [(6, .int x6), (8, .int (1 : Int32)), (0, .ref (ad 0)), (2, .int x2), (3, .int x3), (4, .int x4), (7, .int x7)]) C dX7_againOf_129 (by decide) rfl ?_
            refine g_iinc (pc := 131) (v := (x7 + 2)) (lv2 := [(7, .int (x7 + 2)), (6, .int x6), (8, .int (1 : Int32)), (0, .ref (ad 0)), (2, .int x2), (3, .int x3), (4, .int x4)]) C dX7_againOf_131 6 rfl rfl (by decide) rfl ?_
            refine g_goto (pc := 134) (tgt := 57) C dX7_againOf_134 (by decide) ?_
            refine g_sub [3, 4, 5, 6, 1, 0] rfl (hrec _ _ _)
          · refine g_iload (pc := 122) C dX7_againOf_122 6 rfl ?_
            refine g_goto (pc := 124) (tgt := 129) C dX7_againOf_124 (by decide) ?_
            refine g_istore (pc := 129) (i := 6) (j := 0) (lv2 := [(6, .int x7), (8, .int (1 : Int32)), (0, .ref (ad 0)), (2, .int x2), (3, .int x3), (4, .int x4), (7, .int x7)]) C dX7_againOf_129 (by decide) rfl ?_
            refine g_iinc (pc := 131) (v := (x7 + 2)) (lv2 := [(7, .int (x7 + 2)), (6, .int x7), (8, .int (1 : Int32)), (0, .ref (ad 0)), (2, .int x2), (3, .int x3), (4, .int x4)]) C dX7_againOf_131 6 rfl rfl (by decide) rfl ?_
            refine g_goto (pc := 134) (tgt := 57) C dX7_againOf_134 (by decide) ?_
            refine g_sub [3, 4, 5, 6, 1, 0] rfl (hrec _ _ _)
      · refine g_iload (pc := 82) C dX7_againOf_82 5 rfl ?_
        refine g_iload (pc := 84) C dX7_againOf_84 3 rfl ?_
        refine g_ixor (pc := 86) C dX7_againOf_86 ?_
        refine g_callSi (pc := 87) (As := [.int _]) C q1055 mw_X7_ones (fun _ hz => c_X7_ones C.2.2.2.2.2.2.2.1 hz) ⟨Nat.le_of_ble_eq_true rfl, Nat.le_of_ble_eq_true rfl⟩ rfl rfl rfl (Nat.le_of_ble_eq_true rfl) dX7_againOf_87 fun r17 S16 => ?_
        refine g_iload (pc := 90) C dX7_againOf_90 4 rfl ?_
        refine g_iload (pc := 92) C dX7_againOf_92 3 rfl ?_
        refine g_ixor (pc := 94) C dX7_againOf_94 ?_
        refine g_callSi (pc := 95) (As := [.int _]) C q1055 mw_X7_ones (fun _ hz => c_X7_ones C.2.2.2.2.2.2.2.1 hz) ⟨Nat.le_of_ble_eq_true rfl, Nat.le_of_ble_eq_true rfl⟩ rfl rfl rfl (Nat.le_of_ble_eq_true rfl) dX7_againOf_95 fun r19 S18 => ?_
        refine g_icmp_ge (pc := 98) (tgt := 105) C dX7_againOf_98 (by decide) ?_ ?_
        · refine g_iconst (pc := 105) (v := 0) C dX7_againOf_105 (by decide) ?_
          refine g_istore (pc := 106) (i := 8) (j := 0) (lv2 := [(8, .int (0 : Int32)), (0, .ref (ad 0)), (2, .int x2), (3, .int x3), (4, .int x4), (6, .int x6), (7, .int x7)]) C dX7_againOf_106 (by decide) rfl ?_
          refine g_iload (pc := 108) C dX7_againOf_108 0 rfl ?_
          refine g_if_eq (pc := 110) (tgt := 127) C dX7_againOf_110 (by decide) ?_ ?_
          · refine g_iload (pc := 127) C dX7_againOf_127 5 rfl ?_
            refine g_istore (pc := 129) (i := 6) (j := 0) (lv2 := [(6, .int x6), (8, .int (0 : Int32)), (0, .ref (ad 0)), (2, .int x2), (3, .int x3), (4, .int x4), (7, .int x7)]) C dX7_againOf_129 (by decide) rfl ?_
            refine g_iinc (pc := 131) (v := (x7 + 2)) (lv2 := [(7, .int (x7 + 2)), (6, .int x6), (8, .int (0 : Int32)), (0, .ref (ad 0)), (2, .int x2), (3, .int x3), (4, .int x4)]) C dX7_againOf_131 6 rfl rfl (by decide) rfl ?_
            refine g_goto (pc := 134) (tgt := 57) C dX7_againOf_134 (by decide) ?_
            refine g_sub [3, 4, 5, 6, 1, 0] rfl (hrec _ _ _)
          · refine g_aload_n (pc := 113) C dX7_againOf_113 (i := 0) rfl 1 rfl ?_
            refine g_iload (pc := 114) C dX7_againOf_114 6 rfl ?_
            refine g_callVi (pc := 116) (As := [.int _]) C q1093 mw_X7_isParting (fun _ hz => c_X7_isParting C.2.2.2.2.2.2.2.1 hz) ⟨Nat.le_of_ble_eq_true rfl, Nat.le_of_ble_eq_true rfl⟩ rfl rfl 0 rfl rfl rfl (Nat.le_of_ble_eq_true rfl) dX7_againOf_116 fun r21 S20 => ?_
            refine g_if_eq (pc := 119) (tgt := 127) C dX7_againOf_119 (by decide) ?_ ?_
            · refine g_iload (pc := 127) C dX7_againOf_127 5 rfl ?_
              refine g_istore (pc := 129) (i := 6) (j := 0) (lv2 := [(6, .int x6), (8, .int (0 : Int32)), (0, .ref (ad 0)), (2, .int x2), (3, .int x3), (4, .int x4), (7, .int x7)]) C dX7_againOf_129 (by decide) rfl ?_
              refine g_iinc (pc := 131) (v := (x7 + 2)) (lv2 := [(7, .int (x7 + 2)), (6, .int x6), (8, .int (0 : Int32)), (0, .ref (ad 0)), (2, .int x2), (3, .int x3), (4, .int x4)]) C dX7_againOf_131 6 rfl rfl (by decide) rfl ?_
              refine g_goto (pc := 134) (tgt := 57) C dX7_againOf_134 (by decide) ?_
              refine g_sub [3, 4, 5, 6, 1, 0] rfl (hrec _ _ _)
            · refine g_iload (pc := 122) C dX7_againOf_122 6 rfl ?_
              refine g_goto (pc := 124) (tgt := 129) C dX7_againOf_124 (by decide) ?_
              refine g_istore (pc := 129) (i := 6) (j := 0) (lv2 := [(6, .int x7), (8, .int (0 : Int32)), (0, .ref (ad 0)), (2, .int x2), (3, .int x3), (4, .int x4), (7, .int x7)]) C dX7_againOf_129 (by decide) rfl ?_
              refine g_iinc (pc := 131) (v := (x7 + 2)) (lv2 := [(7, .int (x7 + 2)), (6, .int x7), (8, .int (0 : Int32)), (0, .ref (ad 0)), (2, .int x2), (3, .int x3), (4, .int x4)]) C dX7_againOf_131 6 rfl rfl (by decide) rfl ?_
              refine g_goto (pc := 134) (tgt := 57) C dX7_againOf_134 (by decide) ?_
              refine g_sub [3, 4, 5, 6, 1, 0] rfl (hrec _ _ _)
        · refine g_iconst (pc := 101) (v := 1) C dX7_againOf_101 (by decide) ?_
          refine g_goto (pc := 102) (tgt := 106) C dX7_againOf_102 (by decide) ?_
          refine g_istore (pc := 106) (i := 8) (j := 0) (lv2 := [(8, .int (1 : Int32)), (0, .ref (ad 0)), (2, .int x2), (3, .int x3), (4, .int x4), (6, .int x6), (7, .int x7)]) C dX7_againOf_106 (by decide) rfl ?_
          refine g_iload (pc := 108) C dX7_againOf_108 0 rfl ?_
          refine g_if_eq (pc := 110) (tgt := 127) C dX7_againOf_110 (by decide) ?_ ?_
          · refine g_iload (pc := 127) C dX7_againOf_127 5 rfl ?_
            refine g_istore (pc := 129) (i := 6) (j := 0) (lv2 := [(6, .int x6), (8, .int (1 : Int32)), (0, .ref (ad 0)), (2, .int x2), (3, .int x3), (4, .int x4), (7, .int x7)]) C dX7_againOf_129 (by decide) rfl ?_
            refine g_iinc (pc := 131) (v := (x7 + 2)) (lv2 := [(7, .int (x7 + 2)), (6, .int x6), (8, .int (1 : Int32)), (0, .ref (ad 0)), (2, .int x2), (3, .int x3), (4, .int x4)]) C dX7_againOf_131 6 rfl rfl (by decide) rfl ?_
            refine g_goto (pc := 134) (tgt := 57) C dX7_againOf_134 (by decide) ?_
            refine g_sub [3, 4, 5, 6, 1, 0] rfl (hrec _ _ _)
          · refine g_aload_n (pc := 113) C dX7_againOf_113 (i := 0) rfl 1 rfl ?_
            refine g_iload (pc := 114) C dX7_againOf_114 6 rfl ?_
            refine g_callVi (pc := 116) (As := [.int _]) C q1093 mw_X7_isParting (fun _ hz => c_X7_isParting C.2.2.2.2.2.2.2.1 hz) ⟨Nat.le_of_ble_eq_true rfl, Nat.le_of_ble_eq_true rfl⟩ rfl rfl 0 rfl rfl rfl (Nat.le_of_ble_eq_true rfl) dX7_againOf_116 fun r23 S22 => ?_
            refine g_if_eq (pc := 119) (tgt := 127) C dX7_againOf_119 (by decide) ?_ ?_
            · refine g_iload (pc := 127) C dX7_againOf_127 5 rfl ?_
              refine g_istore (pc := 129) (i := 6) (j := 0) (lv2 := [(6, .int x6), (8, .int (1 : Int32)), (0, .ref (ad 0)), (2, .int x2), (3, .int x3), (4, .int x4), (7, .int x7)]) C dX7_againOf_129 (by decide) rfl ?_
              refine g_iinc (pc := 131) (v := (x7 + 2)) (lv2 := [(7, .int (x7 + 2)), (6, .int x6), (8, .int (1 : Int32)), (0, .ref (ad 0)), (2, .int x2), (3, .int x3), (4, .int x4)]) C dX7_againOf_131 6 rfl rfl (by decide) rfl ?_
              refine g_goto (pc := 134) (tgt := 57) C dX7_againOf_134 (by decide) ?_
              refine g_sub [3, 4, 5, 6, 1, 0] rfl (hrec _ _ _)
            · refine g_iload (pc := 122) C dX7_againOf_122 6 rfl ?_
              refine g_goto (pc := 124) (tgt := 129) C dX7_againOf_124 (by decide) ?_
              refine g_istore (pc := 129) (i := 6) (j := 0) (lv2 := [(6, .int x7), (8, .int (1 : Int32)), (0, .ref (ad 0)), (2, .int x2), (3, .int x3), (4, .int x4), (7, .int x7)]) C dX7_againOf_129 (by decide) rfl ?_
              refine g_iinc (pc := 131) (v := (x7 + 2)) (lv2 := [(7, .int (x7 + 2)), (6, .int x7), (8, .int (1 : Int32)), (0, .ref (ad 0)), (2, .int x2), (3, .int x3), (4, .int x4)]) C dX7_againOf_131 6 rfl rfl (by decide) rfl ?_
              refine g_goto (pc := 134) (tgt := 57) C dX7_againOf_134 (by decide) ?_
              refine g_sub [3, 4, 5, 6, 1, 0] rfl (hrec _ _ _)
set_option maxRecDepth 20000 in
theorem c_X7_againOf {l : Launch} {D : va_G} {ad : Nat → Nat} {cI cJ cZ : ClassId} {n : Nat} (hD : ∀ sz S, va_D (Adr ad n sz) (wM ad cI cJ cZ S)) {x1 : Int32} {x2 : Int32} {x3 : Int32} {S : St} {z : Int32 × St} (hf : m_X7_againOf x1 x2 x3 S = some z) : CtI l yX7_againOf cX7_againOf 9 (some .int) ({ frames := 6, cells := 0, slots := 0, locals := 140 } : Room) D (wM ad cI cJ cZ) (tyX cI cJ cZ) ad n [.ref (ad 0), .int x1, .int x2, .int x3] S z := by
  refine CtI.of hf (by decide +kernel) (Nat.le_of_ble_eq_true rfl) hD (fun p e s m args below meth c C hr => ?_)
  refine g_sub [0, 1, 2, 3] (lv2 := [(0, .ref (ad 0)), (1, .int x1), (2, .int x2), (3, .int x3)]) rfl ?_
  unfold m_X7_againOf
  refine g_aload_n (pc := 0) C dX7_againOf_0 (i := 0) rfl 0 rfl ?_
  refine g_callVi (pc := 1) (As := []) C q1074 mw_X7_partsNow (fun _ hz => c_X7_partsNow C.2.2.2.2.2.2.2.1 hz) ⟨Nat.le_of_ble_eq_true rfl, Nat.le_of_ble_eq_true rfl⟩ rfl rfl 0 rfl rfl rfl (Nat.le_of_ble_eq_true rfl) dX7_againOf_1 fun r2 S1 => ?_
  refine g_istore (pc := 4) (i := 4) (j := 0) (lv2 := [(4, .int r2), (0, .ref (ad 0)), (1, .int x1), (2, .int x2), (3, .int x3)]) C dX7_againOf_4 (by decide) rfl ?_
  refine g_aload_n (pc := 6) C dX7_againOf_6 (i := 0) rfl 1 rfl ?_
  refine gt_X7_stands (pc := 7) C q879 dX7_againOf_7 ?_
  refine g_iload_n (pc := 10) C dX7_againOf_10 (i := 1) rfl 2 rfl ?_
  refine al_X7_stands (pc := 11) C dX7_againOf_11 ?_
  refine g_if_eq (pc := 12) (tgt := 21) C dX7_againOf_12 (by decide) ?_ ?_
  · refine g_bipush (pc := 21) (v := -3) C dX7_againOf_21 (by decide) ?_
    exact g_iret (pc := 23) C hr dX7_againOf_23
  · refine g_iload (pc := 15) C dX7_againOf_15 0 rfl ?_
    refine g_iconst (pc := 17) (v := -1) C dX7_againOf_17 (by decide) ?_
    refine g_icmp_ne (pc := 18) (tgt := 24) C dX7_againOf_18 (by decide) ?_ ?_
    · refine g_aload_n (pc := 24) C dX7_againOf_24 (i := 0) rfl 1 rfl ?_
      refine gt_X7_stands (pc := 25) C q879 dX7_againOf_25 ?_
      refine g_iload_n (pc := 28) C dX7_againOf_28 (i := 1) rfl 2 rfl ?_
      refine al_X7_stands (pc := 29) C dX7_againOf_29 ?_
      refine g_nmi fun y3 => ?_
      refine g_istore (pc := 30) (i := 5) (j := 0) (lv2 := [(5, .int y3), (4, .int r2), (0, .ref (ad 0)), (1, .int x1), (2, .int x2), (3, .int x3)]) C dX7_againOf_30 (by decide) rfl ?_
      refine g_aload_n (pc := 32) C dX7_againOf_32 (i := 0) rfl 2 rfl ?_
      refine gt_X7_stands (pc := 33) C q879 dX7_againOf_33 ?_
      refine g_iload_n (pc := 36) C dX7_againOf_36 (i := 1) rfl 3 rfl ?_
      refine g_iconst (pc := 37) (v := 0) C dX7_againOf_37 (by decide) ?_
      refine as_X7_stands (pc := 38) C dX7_againOf_38 fun S4 => ?_
      refine g_aload_n (pc := 39) C dX7_againOf_39 (i := 0) rfl 2 rfl ?_
      refine g_callVv (pc := 40) (As := []) C q1078 mw_X7_laysYears (fun _ hz => c_X7_laysYears C.2.2.2.2.2.2.2.1 hz) ⟨Nat.le_of_ble_eq_true rfl, Nat.le_of_ble_eq_true rfl⟩ rfl rfl 0 rfl rfl rfl (Nat.le_of_ble_eq_true rfl) dX7_againOf_40 fun S5 => ?_
      refine g_aload_n (pc := 43) C dX7_againOf_43 (i := 0) rfl 2 rfl ?_
      refine gt_X7_stands (pc := 44) C q879 dX7_againOf_44 ?_
      refine g_iload_n (pc := 47) C dX7_againOf_47 (i := 1) rfl 3 rfl ?_
      refine g_iload (pc := 48) C dX7_againOf_48 0 rfl ?_
      refine as_X7_stands (pc := 50) C dX7_againOf_50 fun S7 => ?_
      refine g_iconst (pc := 51) (v := -1) C dX7_againOf_51 (by decide) ?_
      refine g_istore (pc := 52) (i := 6) (j := 0) (lv2 := [(6, .int (-1 : Int32)), (5, .int y3), (4, .int r2), (0, .ref (ad 0)), (1, .int x1), (2, .int x2), (3, .int x3)]) C dX7_againOf_52 (by decide) rfl ?_
      refine g_iconst (pc := 54) (v := 1) C dX7_againOf_54 (by decide) ?_
      refine g_istore (pc := 55) (i := 7) (j := 0) (lv2 := [(7, .int (1 : Int32)), (6, .int (-1 : Int32)), (5, .int y3), (4, .int r2), (0, .ref (ad 0)), (1, .int x1), (2, .int x2), (3, .int x3)]) C dX7_againOf_55 (by decide) rfl ?_
      refine g_sub [4, 6, 7, 3, 1, 0] (lv2 := [(0, .ref (ad 0)), (2, .int x2), (3, .int x3), (4, .int r2), (6, .int (-1 : Int32)), (7, .int (1 : Int32))]) rfl ?_
      refine g_it2 (pc := 57) (u_X7_againOf_57 C hr _ _ _ _ fun x6_S24 S24 => ?_) _ _ _ _
      refine g_iload (pc := 137) C dX7_againOf_137 2 rfl ?_
      refine g_iconst (pc := 139) (v := -1) C dX7_againOf_139 (by decide) ?_
      refine g_icmp_eq (pc := 140) (tgt := 148) C dX7_againOf_140 (by decide) ?_ ?_
      · refine g_iload (pc := 148) C dX7_againOf_148 2 rfl ?_
        refine g_goto (pc := 150) (tgt := 161) C dX7_againOf_150 (by decide) ?_
        exact g_iret (pc := 161) C hr dX7_againOf_161
      · refine g_iload_n (pc := 143) C dX7_againOf_143 (i := 3) rfl 0 rfl ?_
        refine g_iconst (pc := 144) (v := 1) C dX7_againOf_144 (by decide) ?_
        refine g_icmp_ne (pc := 145) (tgt := 153) C dX7_againOf_145 (by decide) ?_ ?_
        · refine g_iload (pc := 153) C dX7_againOf_153 2 rfl ?_
          refine g_iload (pc := 155) C dX7_againOf_155 1 rfl ?_
          refine g_ixor (pc := 157) C dX7_againOf_157 ?_
          refine g_callSi (pc := 158) (As := [.int _]) C q1055 mw_X7_ones (fun _ hz => c_X7_ones C.2.2.2.2.2.2.2.1 hz) ⟨Nat.le_of_ble_eq_true rfl, Nat.le_of_ble_eq_true rfl⟩ rfl rfl rfl (Nat.le_of_ble_eq_true rfl) dX7_againOf_158 fun r26 S25 => ?_
          exact g_iret (pc := 161) C hr dX7_againOf_161
        · refine g_iload (pc := 148) C dX7_againOf_148 2 rfl ?_
          refine g_goto (pc := 150) (tgt := 161) C dX7_againOf_150 (by decide) ?_
          exact g_iret (pc := 161) C hr dX7_againOf_161
    · refine g_bipush (pc := 21) (v := -3) C dX7_againOf_21 (by decide) ?_
      exact g_iret (pc := 23) C hr dX7_againOf_23
noncomputable def m_X7_again (x1 : Int32) (x2 : Int32) (x3 : Int32) (S : St) : Option (Int32 × St) :=
bnd (m_X7_isCell x1 S) fun r2 S1 =>
if r2 = 0 then (
some ((-2 : Int32), S1))
else
bnd (m_X7_in x2 (0 : Int32) (99999 : Int32) S1) fun r4 S3 =>
if r4 = 0 then (
some ((-2 : Int32), S3))
else
bnd (m_X7_in x3 (0 : Int32) (1 : Int32) S3) fun r6 S5 =>
if r6 = 0 then (
some ((-2 : Int32), S5))
else
bnd (m_X7_againOf x1 x2 x3 S5) fun r8 S7 =>
some (r8, S7)
set_option maxRecDepth 20000 in
theorem c_X7_again {l : Launch} {D : va_G} {ad : Nat → Nat} {cI cJ cZ : ClassId} {n : Nat} (hD : ∀ sz S, va_D (Adr ad n sz) (wM ad cI cJ cZ S)) {x1 : Int32} {x2 : Int32} {x3 : Int32} {S : St} {z : Int32 × St} (hf : m_X7_again x1 x2 x3 S = some z) : CtI l yX7_again cX7_again 4 (some .int) ({ frames := 7, cells := 0, slots := 0, locals := 168 } : Room) D (wM ad cI cJ cZ) (tyX cI cJ cZ) ad n [.ref (ad 0), .int x1, .int x2, .int x3] S z := by
  refine CtI.of hf (by decide +kernel) (Nat.le_of_ble_eq_true rfl) hD (fun p e s m args below meth c C hr => ?_)
  refine g_sub [0, 1, 2, 3] (lv2 := [(0, .ref (ad 0)), (1, .int x1), (2, .int x2), (3, .int x3)]) rfl ?_
  unfold m_X7_again
  refine g_aload_n (pc := 0) C dX7_again_0 (i := 0) rfl 0 rfl ?_
  refine g_iload_n (pc := 1) C dX7_again_1 (i := 1) rfl 1 rfl ?_
  refine g_callVi (pc := 2) (As := [.int _]) C q983 mw_X7_isCell (fun _ hz => c_X7_isCell C.2.2.2.2.2.2.2.1 hz) ⟨Nat.le_of_ble_eq_true rfl, Nat.le_of_ble_eq_true rfl⟩ rfl rfl 0 rfl rfl rfl (Nat.le_of_ble_eq_true rfl) dX7_again_2 fun r2 S1 => ?_
  refine g_if_eq (pc := 5) (tgt := 37) C dX7_again_5 (by decide) ?_ ?_
  · refine g_bipush (pc := 37) (v := -2) C dX7_again_37 (by decide) ?_
    exact g_iret (pc := 39) C hr dX7_again_39
  · refine g_iload_n (pc := 8) C dX7_again_8 (i := 2) rfl 2 rfl ?_
    refine g_iconst (pc := 9) (v := 0) C dX7_again_9 (by decide) ?_
    refine g_ldc (pc := 10) C q1118 dX7_again_10 ?_
    refine g_callSi (pc := 12) (As := [.int _, .int _, .int _]) C q960 mw_X7_in (fun _ hz => c_X7_in C.2.2.2.2.2.2.2.1 hz) ⟨Nat.le_of_ble_eq_true rfl, Nat.le_of_ble_eq_true rfl⟩ rfl rfl rfl (Nat.le_of_ble_eq_true rfl) dX7_again_12 fun r4 S3 => ?_
    refine g_if_eq (pc := 15) (tgt := 37) C dX7_again_15 (by decide) ?_ ?_
    · refine g_bipush (pc := 37) (v := -2) C dX7_again_37 (by decide) ?_
      exact g_iret (pc := 39) C hr dX7_again_39
    · refine g_iload_n (pc := 18) C dX7_again_18 (i := 3) rfl 3 rfl ?_
      refine g_iconst (pc := 19) (v := 0) C dX7_again_19 (by decide) ?_
      refine g_iconst (pc := 20) (v := 1) C dX7_again_20 (by decide) ?_
      refine g_callSi (pc := 21) (As := [.int _, .int _, .int _]) C q960 mw_X7_in (fun _ hz => c_X7_in C.2.2.2.2.2.2.2.1 hz) ⟨Nat.le_of_ble_eq_true rfl, Nat.le_of_ble_eq_true rfl⟩ rfl rfl rfl (Nat.le_of_ble_eq_true rfl) dX7_again_21 fun r6 S5 => ?_
      refine g_if_eq (pc := 24) (tgt := 37) C dX7_again_24 (by decide) ?_ ?_
      · refine g_bipush (pc := 37) (v := -2) C dX7_again_37 (by decide) ?_
        exact g_iret (pc := 39) C hr dX7_again_39
      · refine g_aload_n (pc := 27) C dX7_again_27 (i := 0) rfl 0 rfl ?_
        refine g_iload_n (pc := 28) C dX7_again_28 (i := 1) rfl 1 rfl ?_
        refine g_iload_n (pc := 29) C dX7_again_29 (i := 2) rfl 2 rfl ?_
        refine g_iload_n (pc := 30) C dX7_again_30 (i := 3) rfl 3 rfl ?_
        refine g_callVi (pc := 31) (As := [.int _, .int _, .int _]) C q1127 mw_X7_againOf (fun _ hz => c_X7_againOf C.2.2.2.2.2.2.2.1 hz) ⟨Nat.le_of_ble_eq_true rfl, Nat.le_of_ble_eq_true rfl⟩ rfl rfl 0 rfl rfl rfl (Nat.le_of_ble_eq_true rfl) dX7_again_31 fun r8 S7 => ?_
        refine g_goto (pc := 34) (tgt := 39) C dX7_again_34 (by decide) ?_
        exact g_iret (pc := 39) C hr dX7_again_39
noncomputable def m_X7_worth (x1 : Int32) (x2 : Int32) (x3 : Int32) (S : St) : Option (Int32 × St) :=
bnd (m_X7_isFour x1 S) fun r2 S1 =>
if r2 = 0 then (
some ((-2 : Int32), S1))
else
bnd (m_X7_isFour x2 S1) fun r4 S3 =>
if r4 = 0 then (
some ((-2 : Int32), S3))
else
bnd (m_X7_in x3 (0 : Int32) (9 : Int32) S3) fun r6 S5 =>
if r6 = 0 then (
some ((-2 : Int32), S5))
else
chk (((4 : Int32) * x1) + x2) 16 <|
nm ((gI S5 7 (ix (((4 : Int32) * x1) + x2)))) fun y7 =>
chk (((4 : Int32) * x1) + x2) 16 <|
nm (sI S5 7 (ix (((4 : Int32) * x1) + x2)) x3) fun S8 =>
some (y7, S8)
set_option maxRecDepth 20000 in
theorem c_X7_worth {l : Launch} {D : va_G} {ad : Nat → Nat} {cI cJ cZ : ClassId} {n : Nat} (hD : ∀ sz S, va_D (Adr ad n sz) (wM ad cI cJ cZ S)) {x1 : Int32} {x2 : Int32} {x3 : Int32} {S : St} {z : Int32 × St} (hf : m_X7_worth x1 x2 x3 S = some z) : CtI l yX7_worth cX7_worth 5 (some .int) ({ frames := 2, cells := 0, slots := 0, locals := 42 } : Room) D (wM ad cI cJ cZ) (tyX cI cJ cZ) ad n [.ref (ad 0), .int x1, .int x2, .int x3] S z := by
  refine CtI.of hf (by decide +kernel) (Nat.le_of_ble_eq_true rfl) hD (fun p e s m args below meth c C hr => ?_)
  refine g_sub [0, 1, 2, 3] (lv2 := [(0, .ref (ad 0)), (1, .int x1), (2, .int x2), (3, .int x3)]) rfl ?_
  unfold m_X7_worth
  refine g_iload_n (pc := 0) C dX7_worth_0 (i := 1) rfl 1 rfl ?_
  refine g_callSi (pc := 1) (As := [.int _]) C q1002 mw_X7_isFour (fun _ hz => c_X7_isFour C.2.2.2.2.2.2.2.1 hz) ⟨Nat.le_of_ble_eq_true rfl, Nat.le_of_ble_eq_true rfl⟩ rfl rfl rfl (Nat.le_of_ble_eq_true rfl) dX7_worth_1 fun r2 S1 => ?_
  refine g_if_eq (pc := 4) (tgt := 24) C dX7_worth_4 (by decide) ?_ ?_
  · refine g_bipush (pc := 24) (v := -2) C dX7_worth_24 (by decide) ?_
    exact g_iret (pc := 26) C hr dX7_worth_26
  · refine g_iload_n (pc := 7) C dX7_worth_7 (i := 2) rfl 2 rfl ?_
    refine g_callSi (pc := 8) (As := [.int _]) C q1002 mw_X7_isFour (fun _ hz => c_X7_isFour C.2.2.2.2.2.2.2.1 hz) ⟨Nat.le_of_ble_eq_true rfl, Nat.le_of_ble_eq_true rfl⟩ rfl rfl rfl (Nat.le_of_ble_eq_true rfl) dX7_worth_8 fun r4 S3 => ?_
    refine g_if_eq (pc := 11) (tgt := 24) C dX7_worth_11 (by decide) ?_ ?_
    · refine g_bipush (pc := 24) (v := -2) C dX7_worth_24 (by decide) ?_
      exact g_iret (pc := 26) C hr dX7_worth_26
    · refine g_iload_n (pc := 14) C dX7_worth_14 (i := 3) rfl 3 rfl ?_
      refine g_iconst (pc := 15) (v := 0) C dX7_worth_15 (by decide) ?_
      refine g_bipush (pc := 16) (v := 9) C dX7_worth_16 (by decide) ?_
      refine g_callSi (pc := 18) (As := [.int _, .int _, .int _]) C q960 mw_X7_in (fun _ hz => c_X7_in C.2.2.2.2.2.2.2.1 hz) ⟨Nat.le_of_ble_eq_true rfl, Nat.le_of_ble_eq_true rfl⟩ rfl rfl rfl (Nat.le_of_ble_eq_true rfl) dX7_worth_18 fun r6 S5 => ?_
      refine g_if_ne (pc := 21) (tgt := 27) C dX7_worth_21 (by decide) ?_ ?_
      · refine g_aload_n (pc := 27) C dX7_worth_27 (i := 0) rfl 0 rfl ?_
        refine gt_X7_worths (pc := 28) C q883 dX7_worth_28 ?_
        refine g_iconst (pc := 31) (v := 4) C dX7_worth_31 (by decide) ?_
        refine g_iload_n (pc := 32) C dX7_worth_32 (i := 1) rfl 1 rfl ?_
        refine g_imul (pc := 33) C dX7_worth_33 ?_
        refine g_iload_n (pc := 34) C dX7_worth_34 (i := 2) rfl 2 rfl ?_
        refine g_iadd (pc := 35) C dX7_worth_35 ?_
        refine al_X7_worths (pc := 36) C dX7_worth_36 ?_
        refine g_nmi fun y7 => ?_
        refine g_istore (pc := 37) (i := 4) (j := 0) (lv2 := [(4, .int y7), (0, .ref (ad 0)), (1, .int x1), (2, .int x2), (3, .int x3)]) C dX7_worth_37 (by decide) rfl ?_
        refine g_aload_n (pc := 39) C dX7_worth_39 (i := 0) rfl 1 rfl ?_
        refine gt_X7_worths (pc := 40) C q883 dX7_worth_40 ?_
        refine g_iconst (pc := 43) (v := 4) C dX7_worth_43 (by decide) ?_
        refine g_iload_n (pc := 44) C dX7_worth_44 (i := 1) rfl 2 rfl ?_
        refine g_imul (pc := 45) C dX7_worth_45 ?_
        refine g_iload_n (pc := 46) C dX7_worth_46 (i := 2) rfl 3 rfl ?_
        refine g_iadd (pc := 47) C dX7_worth_47 ?_
        refine g_iload_n (pc := 48) C dX7_worth_48 (i := 3) rfl 4 rfl ?_
        refine as_X7_worths (pc := 49) C dX7_worth_49 fun S8 => ?_
        refine g_iload (pc := 50) C dX7_worth_50 0 rfl ?_
        exact g_iret (pc := 52) C hr dX7_worth_52
      · refine g_bipush (pc := 24) (v := -2) C dX7_worth_24 (by decide) ?_
        exact g_iret (pc := 26) C hr dX7_worth_26
noncomputable def b_X7_valueOf_5 (x1 : Int32) (x2 : Int32) (k : Int32 → St → Option (Int32 × St)) (rec : Int32 → Int32 → St → Option (Int32 × St)) (x3 : Int32) (x4 : Int32) (S : St) : Option (Int32 × St) :=
if x4 < (4 : Int32) then (
bnd (m_X7_lightOf x1 x4 S) fun r2 S1 =>
bnd (m_X7_ones r2 S1) fun r4 S3 =>
chk x4 4 <|
chk (((4 : Int32) * x2) + x4) 16 <|
nm ((x3 + ((r4 * (gI S3 5 (ix x4))) * (gI S3 7 (ix (((4 : Int32) * x2) + x4)))))) fun y5 =>
rec y5 (x4 + 1) S3)
else
k x3 S
noncomputable def m_X7_valueOf (x1 : Int32) (x2 : Int32) (S : St) : Option (Int32 × St) :=
it2 (b_X7_valueOf_5 x1 x2 (fun x3_S6 S6 =>
some (x3_S6, S6))) 5000 (0 : Int32) (0 : Int32) S
set_option maxRecDepth 20000 in
theorem u_X7_valueOf_5 (C : Cx p s m args meth c cX7_valueOf 5 RX7 D (tyX cI cJ cZ) ad n (wM ad cI cJ cZ)) (hr : meth.sig.returnType = (some .int)) (x1 : Int32) (x2 : Int32) (k : Int32 → St → Option (Int32 × St)) (hk : ∀ (x3 : Int32) (S : St), GM p l e ({ frames := 3, cells := 0, slots := 0, locals := 72 } : Room) s m args below meth c D ad n (wM ad cI cJ cZ) 5 (QI D (wM ad cI cJ cZ) ad n args s below) (k x3 S) S 50 [(3, .int x3)] []) (rec : Int32 → Int32 → St → Option (Int32 × St)) (hrec : ∀ (x3 : Int32) (x4 : Int32) (S : St), GM p l e ({ frames := 3, cells := 0, slots := 0, locals := 72 } : Room) s m args below meth c D ad n (wM ad cI cJ cZ) 5 (QI D (wM ad cI cJ cZ) ad n args s below) (rec x3 x4 S) S 5 [(0, .ref (ad 0)), (1, .int x1), (2, .int x2), (3, .int x3), (4, .int x4)] []) (x3 : Int32) (x4 : Int32) (S : St) : GM p l e ({ frames := 3, cells := 0, slots := 0, locals := 72 } : Room) s m args below meth c D ad n (wM ad cI cJ cZ) 5 (QI D (wM ad cI cJ cZ) ad n args s below) (b_X7_valueOf_5 x1 x2 k rec x3 x4 S) S 5 [(0, .ref (ad 0)), (1, .int x1), (2, .int x2), (3, .int x3), (4, .int x4)] [] := by
  unfold b_X7_valueOf_5
  refine g_iload (pc := 5) C dX7_valueOf_5 4 rfl ?_
  refine g_iconst (pc := 7) (v := 4) C dX7_valueOf_7 (by decide) ?_
  refine g_icmp_ge (pc := 8) (tgt := 50) C dX7_valueOf_8 (by decide) ?_ ?_
  · refine g_sub [3] rfl (hk _ _)
  · refine g_iload_n (pc := 11) C dX7_valueOf_11 (i := 3) rfl 3 rfl ?_
    refine g_aload_n (pc := 12) C dX7_valueOf_12 (i := 0) rfl 0 rfl ?_
    refine g_iload_n (pc := 13) C dX7_valueOf_13 (i := 1) rfl 1 rfl ?_
    refine g_iload (pc := 14) C dX7_valueOf_14 4 rfl ?_
    refine g_callVi (pc := 16) (As := [.int _, .int _]) C q1039 mw_X7_lightOf (fun _ hz => c_X7_lightOf C.2.2.2.2.2.2.2.1 hz) ⟨Nat.le_of_ble_eq_true rfl, Nat.le_of_ble_eq_true rfl⟩ rfl rfl 0 rfl rfl rfl (Nat.le_of_ble_eq_true rfl) dX7_valueOf_16 fun r2 S1 => ?_
    refine g_callSi (pc := 19) (As := [.int _]) C q1055 mw_X7_ones (fun _ hz => c_X7_ones C.2.2.2.2.2.2.2.1 hz) ⟨Nat.le_of_ble_eq_true rfl, Nat.le_of_ble_eq_true rfl⟩ rfl rfl rfl (Nat.le_of_ble_eq_true rfl) dX7_valueOf_19 fun r4 S3 => ?_
    refine g_aload_n (pc := 22) C dX7_valueOf_22 (i := 0) rfl 0 rfl ?_
    refine gt_X7_dayOf (pc := 23) C q881 dX7_valueOf_23 ?_
    refine g_iload (pc := 26) C dX7_valueOf_26 4 rfl ?_
    refine al_X7_dayOf (pc := 28) C dX7_valueOf_28 ?_
    refine g_imul (pc := 29) C dX7_valueOf_29 ?_
    refine g_aload_n (pc := 30) C dX7_valueOf_30 (i := 0) rfl 0 rfl ?_
    refine gt_X7_worths (pc := 31) C q883 dX7_valueOf_31 ?_
    refine g_iconst (pc := 34) (v := 4) C dX7_valueOf_34 (by decide) ?_
    refine g_iload_n (pc := 35) C dX7_valueOf_35 (i := 2) rfl 2 rfl ?_
    refine g_imul (pc := 36) C dX7_valueOf_36 ?_
    refine g_iload (pc := 37) C dX7_valueOf_37 4 rfl ?_
    refine g_iadd (pc := 39) C dX7_valueOf_39 ?_
    refine al_X7_worths (pc := 40) C dX7_valueOf_40 ?_
    refine g_imul (pc := 41) C dX7_valueOf_41 ?_
    refine g_iadd (pc := 42) C dX7_valueOf_42 ?_
    refine g_nmi fun y5 => ?_
    refine g_istore_n (pc := 43) (i := 3) (lv2 := [(3, .int y5), (0, .ref (ad 0)), (1, .int x1), (2, .int x2), (4, .int x4)]) C dX7_valueOf_43 rfl (by decide) rfl ?_
    refine g_iinc (pc := 44) (v := (x4 + 1)) (lv2 := [(4, .int (x4 + 1)), (3, .int y5), (0, .ref (ad 0)), (1, .int x1), (2, .int x2)]) C dX7_valueOf_44 4 rfl rfl (by decide) rfl ?_
    refine g_goto (pc := 47) (tgt := 5) C dX7_valueOf_47 (by decide) ?_
    refine g_sub [2, 3, 4, 1, 0] rfl (hrec _ _ _)
set_option maxRecDepth 20000 in
theorem c_X7_valueOf {l : Launch} {D : va_G} {ad : Nat → Nat} {cI cJ cZ : ClassId} {n : Nat} (hD : ∀ sz S, va_D (Adr ad n sz) (wM ad cI cJ cZ S)) {x1 : Int32} {x2 : Int32} {S : St} {z : Int32 × St} (hf : m_X7_valueOf x1 x2 S = some z) : CtI l yX7_valueOf cX7_valueOf 5 (some .int) ({ frames := 3, cells := 0, slots := 0, locals := 72 } : Room) D (wM ad cI cJ cZ) (tyX cI cJ cZ) ad n [.ref (ad 0), .int x1, .int x2] S z := by
  refine CtI.of hf (by decide +kernel) (Nat.le_of_ble_eq_true rfl) hD (fun p e s m args below meth c C hr => ?_)
  refine g_sub [0, 1, 2] (lv2 := [(0, .ref (ad 0)), (1, .int x1), (2, .int x2)]) rfl ?_
  unfold m_X7_valueOf
  refine g_iconst (pc := 0) (v := 0) C dX7_valueOf_0 (by decide) ?_
  refine g_istore_n (pc := 1) (i := 3) (lv2 := [(3, .int (0 : Int32)), (0, .ref (ad 0)), (1, .int x1), (2, .int x2)]) C dX7_valueOf_1 rfl (by decide) rfl ?_
  refine g_iconst (pc := 2) (v := 0) C dX7_valueOf_2 (by decide) ?_
  refine g_istore (pc := 3) (i := 4) (j := 0) (lv2 := [(4, .int (0 : Int32)), (3, .int (0 : Int32)), (0, .ref (ad 0)), (1, .int x1), (2, .int x2)]) C dX7_valueOf_3 (by decide) rfl ?_
  refine g_sub [2, 3, 4, 1, 0] (lv2 := [(0, .ref (ad 0)), (1, .int x1), (2, .int x2), (3, .int (0 : Int32)), (4, .int (0 : Int32))]) rfl ?_
  refine g_it2 (pc := 5) (u_X7_valueOf_5 C hr _ _ _ fun x3_S6 S6 => ?_) _ _ _ _
  refine g_iload_n (pc := 50) C dX7_valueOf_50 (i := 3) rfl 0 rfl ?_
  exact g_iret (pc := 51) C hr dX7_valueOf_51
noncomputable def m_X7_value (x1 : Int32) (x2 : Int32) (S : St) : Option (Int32 × St) :=
bnd (m_X7_isCell x1 S) fun r2 S1 =>
if r2 = 0 then (
some ((-2 : Int32), S1))
else
bnd (m_X7_isFour x2 S1) fun r4 S3 =>
if r4 = 0 then (
some ((-2 : Int32), S3))
else
bnd (m_X7_valueOf x1 x2 S3) fun r6 S5 =>
some (r6, S5)
set_option maxRecDepth 20000 in
theorem c_X7_value {l : Launch} {D : va_G} {ad : Nat → Nat} {cI cJ cZ : ClassId} {n : Nat} (hD : ∀ sz S, va_D (Adr ad n sz) (wM ad cI cJ cZ S)) {x1 : Int32} {x2 : Int32} {S : St} {z : Int32 × St} (hf : m_X7_value x1 x2 S = some z) : CtI l yX7_value cX7_value 3 (some .int) ({ frames := 4, cells := 0, slots := 0, locals := 96 } : Room) D (wM ad cI cJ cZ) (tyX cI cJ cZ) ad n [.ref (ad 0), .int x1, .int x2] S z := by
  refine CtI.of hf (by decide +kernel) (Nat.le_of_ble_eq_true rfl) hD (fun p e s m args below meth c C hr => ?_)
  refine g_sub [0, 1, 2] (lv2 := [(0, .ref (ad 0)), (1, .int x1), (2, .int x2)]) rfl ?_
  unfold m_X7_value
  refine g_aload_n (pc := 0) C dX7_value_0 (i := 0) rfl 0 rfl ?_
  refine g_iload_n (pc := 1) C dX7_value_1 (i := 1) rfl 1 rfl ?_
  refine g_callVi (pc := 2) (As := [.int _]) C q983 mw_X7_isCell (fun _ hz => c_X7_isCell C.2.2.2.2.2.2.2.1 hz) ⟨Nat.le_of_ble_eq_true rfl, Nat.le_of_ble_eq_true rfl⟩ rfl rfl 0 rfl rfl rfl (Nat.le_of_ble_eq_true rfl) dX7_value_2 fun r2 S1 => ?_
  refine g_if_eq (pc := 5) (tgt := 24) C dX7_value_5 (by decide) ?_ ?_
  · refine g_bipush (pc := 24) (v := -2) C dX7_value_24 (by decide) ?_
    exact g_iret (pc := 26) C hr dX7_value_26
  · refine g_iload_n (pc := 8) C dX7_value_8 (i := 2) rfl 2 rfl ?_
    refine g_callSi (pc := 9) (As := [.int _]) C q1002 mw_X7_isFour (fun _ hz => c_X7_isFour C.2.2.2.2.2.2.2.1 hz) ⟨Nat.le_of_ble_eq_true rfl, Nat.le_of_ble_eq_true rfl⟩ rfl rfl rfl (Nat.le_of_ble_eq_true rfl) dX7_value_9 fun r4 S3 => ?_
    refine g_if_eq (pc := 12) (tgt := 24) C dX7_value_12 (by decide) ?_ ?_
    · refine g_bipush (pc := 24) (v := -2) C dX7_value_24 (by decide) ?_
      exact g_iret (pc := 26) C hr dX7_value_26
    · refine g_aload_n (pc := 15) C dX7_value_15 (i := 0) rfl 0 rfl ?_
      refine g_iload_n (pc := 16) C dX7_value_16 (i := 1) rfl 1 rfl ?_
      refine g_iload_n (pc := 17) C dX7_value_17 (i := 2) rfl 2 rfl ?_
      refine g_callVi (pc := 18) (As := [.int _, .int _]) C q1139 mw_X7_valueOf (fun _ hz => c_X7_valueOf C.2.2.2.2.2.2.2.1 hz) ⟨Nat.le_of_ble_eq_true rfl, Nat.le_of_ble_eq_true rfl⟩ rfl rfl 0 rfl rfl rfl (Nat.le_of_ble_eq_true rfl) dX7_value_18 fun r6 S5 => ?_
      refine g_goto (pc := 21) (tgt := 26) C dX7_value_21 (by decide) ?_
      exact g_iret (pc := 26) C hr dX7_value_26
noncomputable def m_X7_isRather (x1 : Int32) (x2 : Int32) (S : St) : Option (Int32 × St) :=
chk x1 12 <|
bnd (m_X7_valueOf x2 (gI S 4 (ix x1)) S) fun r2 S1 =>
chk x1 12 <|
bnd (m_X7_valueOf x1 (gI S1 4 (ix x1)) S1) fun r4 S3 =>
if r4 < r2 then (
some ((1 : Int32), S3))
else
some ((0 : Int32), S3)
set_option maxRecDepth 20000 in
theorem c_X7_isRather {l : Launch} {D : va_G} {ad : Nat → Nat} {cI cJ cZ : ClassId} {n : Nat} (hD : ∀ sz S, va_D (Adr ad n sz) (wM ad cI cJ cZ S)) {x1 : Int32} {x2 : Int32} {S : St} {z : Int32 × St} (hf : m_X7_isRather x1 x2 S = some z) : CtI l yX7_isRather cX7_isRather 3 (some .boolean) ({ frames := 4, cells := 0, slots := 0, locals := 96 } : Room) D (wM ad cI cJ cZ) (tyX cI cJ cZ) ad n [.ref (ad 0), .int x1, .int x2] S z := by
  refine CtI.of hf (by decide +kernel) (Nat.le_of_ble_eq_true rfl) hD (fun p e s m args below meth c C hr => ?_)
  refine g_sub [0, 1, 2] (lv2 := [(0, .ref (ad 0)), (1, .int x1), (2, .int x2)]) rfl ?_
  unfold m_X7_isRather
  refine g_aload_n (pc := 0) C dX7_isRather_0 (i := 0) rfl 0 rfl ?_
  refine g_iload_n (pc := 1) C dX7_isRather_1 (i := 2) rfl 2 rfl ?_
  refine g_aload_n (pc := 2) C dX7_isRather_2 (i := 0) rfl 0 rfl ?_
  refine gt_X7_owners (pc := 3) C q880 dX7_isRather_3 ?_
  refine g_iload_n (pc := 6) C dX7_isRather_6 (i := 1) rfl 1 rfl ?_
  refine al_X7_owners (pc := 7) C dX7_isRather_7 ?_
  refine g_callVi (pc := 8) (As := [.int _, .int _]) C q1139 mw_X7_valueOf (fun _ hz => c_X7_valueOf C.2.2.2.2.2.2.2.1 hz) ⟨Nat.le_of_ble_eq_true rfl, Nat.le_of_ble_eq_true rfl⟩ rfl rfl 0 rfl rfl rfl (Nat.le_of_ble_eq_true rfl) dX7_isRather_8 fun r2 S1 => ?_
  refine g_aload_n (pc := 11) C dX7_isRather_11 (i := 0) rfl 0 rfl ?_
  refine g_iload_n (pc := 12) C dX7_isRather_12 (i := 1) rfl 1 rfl ?_
  refine g_aload_n (pc := 13) C dX7_isRather_13 (i := 0) rfl 0 rfl ?_
  refine gt_X7_owners (pc := 14) C q880 dX7_isRather_14 ?_
  refine g_iload_n (pc := 17) C dX7_isRather_17 (i := 1) rfl 1 rfl ?_
  refine al_X7_owners (pc := 18) C dX7_isRather_18 ?_
  refine g_callVi (pc := 19) (As := [.int _, .int _]) C q1139 mw_X7_valueOf (fun _ hz => c_X7_valueOf C.2.2.2.2.2.2.2.1 hz) ⟨Nat.le_of_ble_eq_true rfl, Nat.le_of_ble_eq_true rfl⟩ rfl rfl 0 rfl rfl rfl (Nat.le_of_ble_eq_true rfl) dX7_isRather_19 fun r4 S3 => ?_
  refine g_icmp_le (pc := 22) (tgt := 29) C dX7_isRather_22 (by decide) ?_ ?_
  · refine g_iconst (pc := 29) (v := 0) C dX7_isRather_29 (by decide) ?_
    exact g_zretq (pc := 30) C hr (Or.inl rfl) dX7_isRather_30
  · refine g_iconst (pc := 25) (v := 1) C dX7_isRather_25 (by decide) ?_
    refine g_goto (pc := 26) (tgt := 30) C dX7_isRather_26 (by decide) ?_
    exact g_zretq (pc := 30) C hr (Or.inr rfl) dX7_isRather_30
end MM
