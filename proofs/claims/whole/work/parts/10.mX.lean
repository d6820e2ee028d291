section MM
variable {p : Program} {l : Launch} {e : Env} {s : State} {m : MethodId} {args : Array Value} {below : List Frame} {meth : Method} {c : Code} {D : va_G} {ad : Nat → Nat} {n : Nat} {cI cJ cZ : ClassId}
noncomputable def m_X6_isBelow (x0 : Int32) (x1 : Int32) (S : St) : Option (Int32 × St) :=
if x0 < 0 then (
some ((0 : Int32), S))
else
if x0 < x1 then (
some ((1 : Int32), S))
else
some ((0 : Int32), S)
set_option maxRecDepth 20000 in
theorem c_X6_isBelow {l : Launch} {D : va_G} {ad : Nat → Nat} {cI cJ cZ : ClassId} {n : Nat} (hD : ∀ sz S, va_D (Adr ad n sz) (wX ad cI cJ cZ S)) {x0 : Int32} {x1 : Int32} {S : St} {z : Int32 × St} (hf : m_X6_isBelow x0 x1 S = some z) : CtI l yX6_isBelow cX6_isBelow 2 (some .boolean) ({ frames := 0, cells := 0, slots := 0, locals := 0 } : Room) D (wX ad cI cJ cZ) (tyX cI cJ cZ) ad n [.int x0, .int x1] S z := by
  refine CtI.of hf (by decide +kernel) (Nat.le_of_ble_eq_true rfl) hD (fun p e s m args below meth c C hr => ?_)
  refine g_sub [0, 1] (lv2 := [(0, .int x0), (1, .int x1)]) rfl ?_
  unfold m_X6_isBelow
  refine g_iload_n (pc := 0) C dX6_isBelow_0 (i := 0) rfl 0 rfl ?_
  refine g_if_lt (pc := 1) (tgt := 13) C dX6_isBelow_1 (by decide) ?_ ?_
  · refine g_iconst (pc := 13) (v := 0) C dX6_isBelow_13 (by decide) ?_
    exact g_zretq (pc := 14) C hr (Or.inl rfl) dX6_isBelow_14
  · refine g_iload_n (pc := 4) C dX6_isBelow_4 (i := 0) rfl 0 rfl ?_
    refine g_iload_n (pc := 5) C dX6_isBelow_5 (i := 1) rfl 1 rfl ?_
    refine g_icmp_ge (pc := 6) (tgt := 13) C dX6_isBelow_6 (by decide) ?_ ?_
    · refine g_iconst (pc := 13) (v := 0) C dX6_isBelow_13 (by decide) ?_
      exact g_zretq (pc := 14) C hr (Or.inl rfl) dX6_isBelow_14
    · refine g_iconst (pc := 9) (v := 1) C dX6_isBelow_9 (by decide) ?_
      refine g_goto (pc := 10) (tgt := 14) C dX6_isBelow_10 (by decide) ?_
      exact g_zretq (pc := 14) C hr (Or.inr rfl) dX6_isBelow_14
noncomputable def m_X1_isFull (S : St) : Option (Int32 × St) :=
if (gI S 40 0) < (20 : Int32) then (
some ((0 : Int32), S))
else
some ((1 : Int32), S)
set_option maxRecDepth 20000 in
theorem c_X1_isFull {l : Launch} {D : va_G} {ad : Nat → Nat} {cI cJ cZ : ClassId} {n : Nat} (hD : ∀ sz S, va_D (Adr ad n sz) (wX ad cI cJ cZ S)) {S : St} {z : Int32 × St} (hf : m_X1_isFull S = some z) : CtI l yX1_isFull cX1_isFull 1 (some .boolean) ({ frames := 0, cells := 0, slots := 0, locals := 0 } : Room) D (wX ad cI cJ cZ) (tyX cI cJ cZ) ad n [.ref (ad 2)] S z := by
  refine CtI.of hf (by decide +kernel) (Nat.le_of_ble_eq_true rfl) hD (fun p e s m args below meth c C hr => ?_)
  refine g_sub [0] (lv2 := [(0, .ref (ad 2))]) rfl ?_
  unfold m_X1_isFull
  refine g_aload_n (pc := 0) C dX1_isFull_0 (i := 0) rfl 0 rfl ?_
  refine gt_X1_byteCount (pc := 1) C q108 dX1_isFull_1 ?_
  refine g_bipush (pc := 4) (v := 20) C dX1_isFull_4 (by decide) ?_
  refine g_icmp_lt (pc := 6) (tgt := 13) C dX1_isFull_6 (by decide) ?_ ?_
  · refine g_iconst (pc := 13) (v := 0) C dX1_isFull_13 (by decide) ?_
    exact g_zretq (pc := 14) C hr (Or.inl rfl) dX1_isFull_14
  · refine g_iconst (pc := 9) (v := 1) C dX1_isFull_9 (by decide) ?_
    refine g_goto (pc := 10) (tgt := 14) C dX1_isFull_10 (by decide) ?_
    exact g_zretq (pc := 14) C hr (Or.inr rfl) dX1_isFull_14
noncomputable def m_X1_isFigure (x0 : Int32) (S : St) : Option (Int32 × St) :=
if x0 < (48 : Int32) then (
some ((0 : Int32), S))
else
if (57 : Int32) < x0 then (
some ((0 : Int32), S))
else
some ((1 : Int32), S)
set_option maxRecDepth 20000 in
theorem c_X1_isFigure {l : Launch} {D : va_G} {ad : Nat → Nat} {cI cJ cZ : ClassId} {n : Nat} (hD : ∀ sz S, va_D (Adr ad n sz) (wX ad cI cJ cZ S)) {x0 : Int32} {S : St} {z : Int32 × St} (hf : m_X1_isFigure x0 S = some z) : CtI l yX1_isFigure cX1_isFigure 1 (some .boolean) ({ frames := 0, cells := 0, slots := 0, locals := 0 } : Room) D (wX ad cI cJ cZ) (tyX cI cJ cZ) ad n [.int x0] S z := by
  refine CtI.of hf (by decide +kernel) (Nat.le_of_ble_eq_true rfl) hD (fun p e s m args below meth c C hr => ?_)
  refine g_sub [0] (lv2 := [(0, .int x0)]) rfl ?_
  unfold m_X1_isFigure
  refine g_iload_n (pc := 0) C dX1_isFigure_0 (i := 0) rfl 0 rfl ?_
  refine g_bipush (pc := 1) (v := 48) C dX1_isFigure_1 (by decide) ?_
  refine g_icmp_lt (pc := 3) (tgt := 16) C dX1_isFigure_3 (by decide) ?_ ?_
  · refine g_iconst (pc := 16) (v := 0) C dX1_isFigure_16 (by decide) ?_
    exact g_zretq (pc := 17) C hr (Or.inl rfl) dX1_isFigure_17
  · refine g_iload_n (pc := 6) C dX1_isFigure_6 (i := 0) rfl 0 rfl ?_
    refine g_bipush (pc := 7) (v := 57) C dX1_isFigure_7 (by decide) ?_
    refine g_icmp_gt (pc := 9) (tgt := 16) C dX1_isFigure_9 (by decide) ?_ ?_
    · refine g_iconst (pc := 16) (v := 0) C dX1_isFigure_16 (by decide) ?_
      exact g_zretq (pc := 17) C hr (Or.inl rfl) dX1_isFigure_17
    · refine g_iconst (pc := 12) (v := 1) C dX1_isFigure_12 (by decide) ?_
      refine g_goto (pc := 13) (tgt := 17) C dX1_isFigure_13 (by decide) ?_
      exact g_zretq (pc := 17) C hr (Or.inr rfl) dX1_isFigure_17
noncomputable def m_X1_endsRow (x0 : Int32) (x1 : Int32) (x2 : Int32) (S : St) : Option (Int32 × St) :=
if x0 = 0 then (
if 0 < x1 then (
some ((1 : Int32), S))
else
some ((0 : Int32), S))
else
if x1 = x2 then (
some ((1 : Int32), S))
else
some ((0 : Int32), S)
set_option maxRecDepth 20000 in
theorem c_X1_endsRow {l : Launch} {D : va_G} {ad : Nat → Nat} {cI cJ cZ : ClassId} {n : Nat} (hD : ∀ sz S, va_D (Adr ad n sz) (wX ad cI cJ cZ S)) {x0 : Int32} {x1 : Int32} {x2 : Int32} {S : St} {z : Int32 × St} (hf : m_X1_endsRow x0 x1 x2 S = some z) : CtI l yX1_endsRow cX1_endsRow 3 (some .boolean) ({ frames := 0, cells := 0, slots := 0, locals := 0 } : Room) D (wX ad cI cJ cZ) (tyX cI cJ cZ) ad n [.int x0, .int x1, .int x2] S z := by
  refine CtI.of hf (by decide +kernel) (Nat.le_of_ble_eq_true rfl) hD (fun p e s m args below meth c C hr => ?_)
  refine g_sub [0, 1, 2] (lv2 := [(0, .int x0), (1, .int x1), (2, .int x2)]) rfl ?_
  unfold m_X1_endsRow
  refine g_iload_n (pc := 0) C dX1_endsRow_0 (i := 0) rfl 0 rfl ?_
  refine g_if_ne (pc := 1) (tgt := 16) C dX1_endsRow_1 (by decide) ?_ ?_
  · refine g_iload_n (pc := 16) C dX1_endsRow_16 (i := 1) rfl 1 rfl ?_
    refine g_iload_n (pc := 17) C dX1_endsRow_17 (i := 2) rfl 2 rfl ?_
    refine g_icmp_ne (pc := 18) (tgt := 25) C dX1_endsRow_18 (by decide) ?_ ?_
    · refine g_iconst (pc := 25) (v := 0) C dX1_endsRow_25 (by decide) ?_
      exact g_zretq (pc := 26) C hr (Or.inl rfl) dX1_endsRow_26
    · refine g_iconst (pc := 21) (v := 1) C dX1_endsRow_21 (by decide) ?_
      refine g_goto (pc := 22) (tgt := 26) C dX1_endsRow_22 (by decide) ?_
      exact g_zretq (pc := 26) C hr (Or.inr rfl) dX1_endsRow_26
  · refine g_iload_n (pc := 4) C dX1_endsRow_4 (i := 1) rfl 1 rfl ?_
    refine g_if_le (pc := 5) (tgt := 12) C dX1_endsRow_5 (by decide) ?_ ?_
    · refine g_iconst (pc := 12) (v := 0) C dX1_endsRow_12 (by decide) ?_
      refine g_goto (pc := 13) (tgt := 26) C dX1_endsRow_13 (by decide) ?_
      exact g_zretq (pc := 26) C hr (Or.inl rfl) dX1_endsRow_26
    · refine g_iconst (pc := 8) (v := 1) C dX1_endsRow_8 (by decide) ?_
      refine g_goto (pc := 9) (tgt := 26) C dX1_endsRow_9 (by decide) ?_
      exact g_zretq (pc := 26) C hr (Or.inr rfl) dX1_endsRow_26
noncomputable def b_X1_findFault_9 (k : Int32 → Int32 → Int32 → St → Option (Int32 × St)) (rec : Int32 → Int32 → Int32 → Int32 → St → Option (Int32 × St)) (x1 : Int32) (x2 : Int32) (x3 : Int32) (x4 : Int32) (S : St) : Option (Int32 × St) :=
if x4 < (gI S 40 0) then (
if x1 = (3 : Int32) then (
some (x4, S))
else
chk x4 20 <|
bnd (m_X1_isFigure (gI S 7 (ix x4)) S) fun r2 S1 =>
if r2 = 0 then (
chk x4 20 <|
if (gI S1 7 (ix x4)) = (59 : Int32) then (
bnd (m_X1_endsRow x1 x2 x3 S1) fun r4 S3 =>
if r4 = 0 then (
some (x4, S3))
else
rec (x1 + 1) (0 : Int32) x2 (x4 + 1) S3)
else
some (x4, S1))
else
if x2 < x3 then (
rec x1 (x2 + 1) x3 (x4 + 1) S1)
else
chk x4 20 <|
if (gI S1 7 (ix x4)) = (59 : Int32) then (
bnd (m_X1_endsRow x1 x2 x3 S1) fun r6 S5 =>
if r6 = 0 then (
some (x4, S5))
else
rec (x1 + 1) (0 : Int32) x2 (x4 + 1) S5)
else
some (x4, S1))
else
k x1 x2 x3 S
noncomputable def m_X1_findFault (S : St) : Option (Int32 × St) :=
it4 (b_X1_findFault_9 (fun x1_S7 x2_S7 x3_S7 S7 =>
if (gI S7 40 0) = 0 then (
if (1 : Int32) = 0 then (
some ((gI S7 40 0), S7))
else
some ((-1 : Int32), S7))
else
if x1_S7 < (3 : Int32) then (
bnd (m_X1_endsRow x1_S7 x2_S7 x3_S7 S7) fun r9 S8 =>
if r9 = 0 then (
if (0 : Int32) = 0 then (
some ((gI S8 40 0), S8))
else
some ((-1 : Int32), S8))
else
if (1 : Int32) = 0 then (
some ((gI S8 40 0), S8))
else
some ((-1 : Int32), S8))
else
if (0 : Int32) = 0 then (
some ((gI S7 40 0), S7))
else
some ((-1 : Int32), S7))) 5000 (0 : Int32) (0 : Int32) (4 : Int32) (0 : Int32) S
set_option maxRecDepth 20000 in
theorem u_X1_findFault_9 (C : Cx p s m args meth c cX1_findFault 5 RX1 D (tyX cI cJ cZ) ad n (wX ad cI cJ cZ)) (hr : meth.sig.returnType = (some .int)) (k : Int32 → Int32 → Int32 → St → Option (Int32 × St)) (hk : ∀ (x1 : Int32) (x2 : Int32) (x3 : Int32) (S : St), GM p l e ({ frames := 1, cells := 0, slots := 0, locals := 22 } : Room) s m args below meth c D ad n (wX ad cI cJ cZ) 5 (QI D (wX ad cI cJ cZ) ad n args s below) (k x1 x2 x3 S) S 90 [(0, .ref (ad 2)), (1, .int x1), (2, .int x2), (3, .int x3)] []) (rec : Int32 → Int32 → Int32 → Int32 → St → Option (Int32 × St)) (hrec : ∀ (x1 : Int32) (x2 : Int32) (x3 : Int32) (x4 : Int32) (S : St), GM p l e ({ frames := 1, cells := 0, slots := 0, locals := 22 } : Room) s m args below meth c D ad n (wX ad cI cJ cZ) 5 (QI D (wX ad cI cJ cZ) ad n args s below) (rec x1 x2 x3 x4 S) S 9 [(0, .ref (ad 2)), (1, .int x1), (2, .int x2), (3, .int x3), (4, .int x4)] []) (x1 : Int32) (x2 : Int32) (x3 : Int32) (x4 : Int32) (S : St) : GM p l e ({ frames := 1, cells := 0, slots := 0, locals := 22 } : Room) s m args below meth c D ad n (wX ad cI cJ cZ) 5 (QI D (wX ad cI cJ cZ) ad n args s below) (b_X1_findFault_9 k rec x1 x2 x3 x4 S) S 9 [(0, .ref (ad 2)), (1, .int x1), (2, .int x2), (3, .int x3), (4, .int x4)] [] := by
  unfold b_X1_findFault_9
  refine g_iload (pc := 9) C dX1_findFault_9 4 rfl ?_
  refine g_aload_n (pc := 11) C dX1_findFault_11 (i := 0) rfl 0 rfl ?_
  refine gt_X1_byteCount (pc := 12) C q108 dX1_findFault_12 ?_
  refine g_icmp_ge (pc := 15) (tgt := 90) C dX1_findFault_15 (by decide) ?_ ?_
  · refine g_sub [0, 1, 2, 3] rfl (hk _ _ _ _)
  · refine g_iload_n (pc := 18) C dX1_findFault_18 (i := 1) rfl 1 rfl ?_
    refine g_iconst (pc := 19) (v := 3) C dX1_findFault_19 (by decide) ?_
    refine g_icmp_ne (pc := 20) (tgt := 26) C dX1_findFault_20 (by decide) ?_ ?_
    · refine g_aload_n (pc := 26) C dX1_findFault_26 (i := 0) rfl 0 rfl ?_
      refine gt_X1_text (pc := 27) C q103 dX1_findFault_27 ?_
      refine g_iload (pc := 30) C dX1_findFault_30 4 rfl ?_
      refine al_X1_text (pc := 32) C dX1_findFault_32 ?_
      refine g_callSi (pc := 33) (As := [.int _]) C q323 mw_X1_isFigure (fun _ hz => c_X1_isFigure C.2.2.2.2.2.2.2.1 hz) ⟨Nat.le_of_ble_eq_true rfl, Nat.le_of_ble_eq_true rfl⟩ rfl rfl rfl (Nat.le_of_ble_eq_true rfl) dX1_findFault_33 fun r2 S1 => ?_
      refine g_if_eq (pc := 36) (tgt := 50) C dX1_findFault_36 (by decide) ?_ ?_
      · refine g_aload_n (pc := 50) C dX1_findFault_50 (i := 0) rfl 0 rfl ?_
        refine gt_X1_text (pc := 51) C q103 dX1_findFault_51 ?_
        refine g_iload (pc := 54) C dX1_findFault_54 4 rfl ?_
        refine al_X1_text (pc := 56) C dX1_findFault_56 ?_
        refine g_bipush (pc := 57) (v := 59) C dX1_findFault_57 (by decide) ?_
        refine g_icmp_ne (pc := 59) (tgt := 81) C dX1_findFault_59 (by decide) ?_ ?_
        · refine g_iload (pc := 81) C dX1_findFault_81 4 rfl ?_
          exact g_iret (pc := 83) C hr dX1_findFault_83
        · refine g_iload_n (pc := 62) C dX1_findFault_62 (i := 1) rfl 1 rfl ?_
          refine g_iload_n (pc := 63) C dX1_findFault_63 (i := 2) rfl 2 rfl ?_
          refine g_iload_n (pc := 64) C dX1_findFault_64 (i := 3) rfl 3 rfl ?_
          refine g_callSi (pc := 65) (As := [.int _, .int _, .int _]) C q326 mw_X1_endsRow (fun _ hz => c_X1_endsRow C.2.2.2.2.2.2.2.1 hz) ⟨Nat.le_of_ble_eq_true rfl, Nat.le_of_ble_eq_true rfl⟩ rfl rfl rfl (Nat.le_of_ble_eq_true rfl) dX1_findFault_65 fun r4 S3 => ?_
          refine g_if_eq (pc := 68) (tgt := 81) C dX1_findFault_68 (by decide) ?_ ?_
          · refine g_iload (pc := 81) C dX1_findFault_81 4 rfl ?_
            exact g_iret (pc := 83) C hr dX1_findFault_83
          · refine g_iload_n (pc := 71) C dX1_findFault_71 (i := 2) rfl 2 rfl ?_
            refine g_istore_n (pc := 72) (i := 3) (lv2 := [(3, .int x2), (0, .ref (ad 2)), (1, .int x1), (2, .int x2), (4, .int x4)]) C dX1_findFault_72 rfl (by decide) rfl ?_
            refine g_iconst (pc := 73) (v := 0) C dX1_findFault_73 (by decide) ?_
            refine g_istore_n (pc := 74) (i := 2) (lv2 := [(2, .int (0 : Int32)), (3, .int x2), (0, .ref (ad 2)), (1, .int x1), (4, .int x4)]) C dX1_findFault_74 rfl (by decide) rfl ?_
            refine g_iinc (pc := 75) (v := (x1 + 1)) (lv2 := [(1, .int (x1 + 1)), (2, .int (0 : Int32)), (3, .int x2), (0, .ref (ad 2)), (4, .int x4)]) C dX1_findFault_75 3 rfl rfl (by decide) rfl ?_
            refine g_goto (pc := 78) (tgt := 84) C dX1_findFault_78 (by decide) ?_
            refine g_iinc (pc := 84) (v := (x4 + 1)) (lv2 := [(4, .int (x4 + 1)), (1, .int (x1 + 1)), (2, .int (0 : Int32)), (3, .int x2), (0, .ref (ad 2))]) C dX1_findFault_84 4 rfl rfl (by decide) rfl ?_
            refine g_goto (pc := 87) (tgt := 9) C dX1_findFault_87 (by decide) ?_
            refine g_sub [4, 1, 2, 3, 0] rfl (hrec _ _ _ _ _)
      · refine g_iload_n (pc := 39) C dX1_findFault_39 (i := 2) rfl 2 rfl ?_
        refine g_iload_n (pc := 40) C dX1_findFault_40 (i := 3) rfl 3 rfl ?_
        refine g_icmp_ge (pc := 41) (tgt := 50) C dX1_findFault_41 (by decide) ?_ ?_
        · refine g_aload_n (pc := 50) C dX1_findFault_50 (i := 0) rfl 0 rfl ?_
          refine gt_X1_text (pc := 51) C q103 dX1_findFault_51 ?_
          refine g_iload (pc := 54) C dX1_findFault_54 4 rfl ?_
          refine al_X1_text (pc := 56) C dX1_findFault_56 ?_
          refine g_bipush (pc := 57) (v := 59) C dX1_findFault_57 (by decide) ?_
          refine g_icmp_ne (pc := 59) (tgt := 81) C dX1_findFault_59 (by decide) ?_ ?_
          · refine g_iload (pc := 81) C dX1_findFault_81 4 rfl ?_
            exact g_iret (pc := 83) C hr dX1_findFault_83
          · refine g_iload_n (pc := 62) C dX1_findFault_62 (i := 1) rfl 1 rfl ?_
            refine g_iload_n (pc := 63) C dX1_findFault_63 (i := 2) rfl 2 rfl ?_
            refine g_iload_n (pc := 64) C dX1_findFault_64 (i := 3) rfl 3 rfl ?_
            refine g_callSi (pc := 65) (As := [.int _, .int _, .int _]) C q326 mw_X1_endsRow (fun _ hz => c_X1_endsRow C.2.2.2.2.2.2.2.1 hz) ⟨Nat.le_of_ble_eq_true rfl, Nat.le_of_ble_eq_true rfl⟩ rfl rfl rfl (Nat.le_of_ble_eq_true rfl) dX1_findFault_65 fun r6 S5 => ?_
            refine g_if_eq (pc := 68) (tgt := 81) C dX1_findFault_68 (by decide) ?_ ?_
            · refine g_iload (pc := 81) C dX1_findFault_81 4 rfl ?_
              exact g_iret (pc := 83) C hr dX1_findFault_83
            · refine g_iload_n (pc := 71) C dX1_findFault_71 (i := 2) rfl 2 rfl ?_
              refine g_istore_n (pc := 72) (i := 3) (lv2 := [(3, .int x2), (0, .ref (ad 2)), (1, .int x1), (2, .int x2), (4, .int x4)]) C dX1_findFault_72 rfl (by decide) rfl ?_
              refine g_iconst (pc := 73) (v := 0) C dX1_findFault_73 (by decide) ?_
              refine g_istore_n (pc := 74) (i := 2) (lv2 := [(2, .int (0 : Int32)), (3, .int x2), (0, .ref (ad 2)), (1, .int x1), (4, .int x4)]) C dX1_findFault_74 rfl (by decide) rfl ?_
              refine g_iinc (pc := 75) (v := (x1 + 1)) (lv2 := [(1, .int (x1 + 1)), (2, .int (0 : Int32)), (3, .int x2), (0, .ref (ad 2)), (4, .int x4)]) C dX1_findFault_75 3 rfl rfl (by decide) rfl ?_
              refine g_goto (pc := 78) (tgt := 84) C dX1_findFault_78 (by decide) ?_
              refine g_iinc (pc := 84) (v := (x4 + 1)) (lv2 := [(4, .int (x4 + 1)), (1, .int (x1 + 1)), (2, .int (0 : Int32)), (3, .int x2), (0, .ref (ad 2))]) C dX1_findFault_84 4 rfl rfl (by decide) rfl ?_
              refine g_goto (pc := 87) (tgt := 9) C dX1_findFault_87 (by decide) ?_
              refine g_sub [4, 1, 2, 3, 0] rfl (hrec _ _ _ _ _)
        · refine g_iinc (pc := 44) (v := (x2 + 1)) (lv2 := [(2, .int (x2 + 1)), (0, .ref (ad 2)), (1, .int x1), (3, .int x3), (4, .int x4)]) C dX1_findFault_44 2 rfl rfl (by decide) rfl ?_
          refine g_goto (pc := 47) (tgt := 84) C dX1_findFault_47 (by decide) ?_
          refine g_iinc (pc := 84) (v := (x4 + 1)) (lv2 := [(4, .int (x4 + 1)), (2, .int (x2 + 1)), (0, .ref (ad 2)), (1, .int x1), (3, .int x3)]) C dX1_findFault_84 4 rfl rfl (by decide) rfl ?_
          refine g_goto (pc := 87) (tgt := 9) C dX1_findFault_87 (by decide) ?_
          refine g_sub [2, 3, 1, 4, 0] rfl (hrec _ _ _ _ _)
    · refine g_iload (pc := 23) C dX1_findFault_23 4 rfl ?_
      exact g_iret (pc := 25) C hr dX1_findFault_25
set_option maxRecDepth 20000 in
theorem c_X1_findFault {l : Launch} {D : va_G} {ad : Nat → Nat} {cI cJ cZ : ClassId} {n : Nat} (hD : ∀ sz S, va_D (Adr ad n sz) (wX ad cI cJ cZ S)) {S : St} {z : Int32 × St} (hf : m_X1_findFault S = some z) : CtI l yX1_findFault cX1_findFault 5 (some .int) ({ frames := 1, cells := 0, slots := 0, locals := 22 } : Room) D (wX ad cI cJ cZ) (tyX cI cJ cZ) ad n [.ref (ad 2)] S z := by
  refine CtI.of hf (by decide +kernel) (Nat.le_of_ble_eq_true rfl) hD (fun p e s m args below meth c C hr => ?_)
  refine g_sub [0] (lv2 := [(0, .ref (ad 2))]) rfl ?_
  unfold m_X1_findFault
  refine g_iconst (pc := 0) (v := 0) C dX1_findFault_0 (by decide) ?_
  refine g_istore_n (pc := 1) (i := 1) (lv2 := [(1, .int (0 : Int32)), (0, .ref (ad 2))]) C dX1_findFault_1 rfl (by decide) rfl ?_
  refine g_iconst (pc := 2) (v := 0) C dX1_findFault_2 (by decide) ?_
  refine g_istore_n (pc := 3) (i := 2) (lv2 := [(2, .int (0 : Int32)), (1, .int (0 : Int32)), (0, .ref (ad 2))]) C dX1_findFault_3 rfl (by decide) rfl ?_
  refine g_iconst (pc := 4) (v := 4) C dX1_findFault_4 (by decide) ?_
  refine g_istore_n (pc := 5) (i := 3) (lv2 := [(3, .int (4 : Int32)), (2, .int (0 : Int32)), (1, .int (0 : Int32)), (0, .ref (ad 2))]) C dX1_findFault_5 rfl (by decide) rfl ?_
  refine g_iconst (pc := 6) (v := 0) C dX1_findFault_6 (by decide) ?_
  refine g_istore (pc := 7) (i := 4) (j := 0) (lv2 := [(4, .int (0 : Int32)), (3, .int (4 : Int32)), (2, .int (0 : Int32)), (1, .int (0 : Int32)), (0, .ref (ad 2))]) C dX1_findFault_7 (by decide) rfl ?_
  refine g_sub [4, 3, 2, 1, 0] (lv2 := [(0, .ref (ad 2)), (1, .int (0 : Int32)), (2, .int (0 : Int32)), (3, .int (4 : Int32)), (4, .int (0 : Int32))]) rfl ?_
  refine g_it4 (pc := 9) (u_X1_findFault_9 C hr _ fun x1_S7 x2_S7 x3_S7 S7 => ?_) _ _ _ _ _ _
  refine g_aload_n (pc := 90) C dX1_findFault_90 (i := 0) rfl 0 rfl ?_
  refine gt_X1_byteCount (pc := 91) C q108 dX1_findFault_91 ?_
  refine g_if_eq (pc := 94) (tgt := 111) C dX1_findFault_94 (by decide) ?_ ?_
  · refine g_iconst (pc := 111) (v := 1) C dX1_findFault_111 (by decide) ?_
    refine g_goto (pc := 112) (tgt := 116) C dX1_findFault_112 (by decide) ?_
    refine g_istore (pc := 116) (i := 4) (j := 0) (lv2 := [(4, .int (1 : Int32)), (0, .ref (ad 2)), (1, .int x1_S7), (2, .int x2_S7), (3, .int x3_S7)]) C dX1_findFault_116 (by decide) rfl ?_
    refine g_iload (pc := 118) C dX1_findFault_118 0 rfl ?_
    refine g_if_eq (pc := 120) (tgt := 127) C dX1_findFault_120 (by decide) ?_ ?_
    · refine g_aload_n (pc := 127) C dX1_findFault_127 (i := 0) rfl 1 rfl ?_
      refine gt_X1_byteCount (pc := 128) C q108 dX1_findFault_128 ?_
      exact g_iret (pc := 131) C hr dX1_findFault_131
    · refine g_iconst (pc := 123) (v := -1) C dX1_findFault_123 (by decide) ?_
      refine g_goto (pc := 124) (tgt := 131) C dX1_findFault_124 (by decide) ?_
      exact g_iret (pc := 131) C hr dX1_findFault_131
  · refine g_iload_n (pc := 97) C dX1_findFault_97 (i := 1) rfl 1 rfl ?_
    refine g_iconst (pc := 98) (v := 3) C dX1_findFault_98 (by decide) ?_
    refine g_icmp_ge (pc := 99) (tgt := 115) C dX1_findFault_99 (by decide) ?_ ?_
    · refine g_iconst (pc := 115) (v := 0) C dX1_findFault_115 (by decide) ?_
      refine g_istore (pc := 116) (i := 4) (j := 0) (lv2 := [(4, .int (0 : Int32)), (0, .ref (ad 2)), (1, .int x1_S7), (2, .int x2_S7), (3, .int x3_S7)]) C dX1_findFault_116 (by decide) rfl ?_
      refine g_iload (pc := 118) C dX1_findFault_118 0 rfl ?_
      refine g_if_eq (pc := 120) (tgt := 127) C dX1_findFault_120 (by decide) ?_ ?_
      · refine g_aload_n (pc := 127) C dX1_findFault_127 (i := 0) rfl 1 rfl ?_
        refine gt_X1_byteCount (pc := 128) C q108 dX1_findFault_128 ?_
        exact g_iret (pc := 131) C hr dX1_findFault_131
      · refine g_iconst (pc := 123) (v := -1) C dX1_findFault_123 (by decide) ?_
        refine g_goto (pc := 124) (tgt := 131) C dX1_findFault_124 (by decide) ?_
        exact g_iret (pc := 131) C hr dX1_findFault_131
    · refine g_iload_n (pc := 102) C dX1_findFault_102 (i := 1) rfl 1 rfl ?_
      refine g_iload_n (pc := 103) C dX1_findFault_103 (i := 2) rfl 2 rfl ?_
      refine g_iload_n (pc := 104) C dX1_findFault_104 (i := 3) rfl 3 rfl ?_
      refine g_callSi (pc := 105) (As := [.int _, .int _, .int _]) C q326 mw_X1_endsRow (fun _ hz => c_X1_endsRow C.2.2.2.2.2.2.2.1 hz) ⟨Nat.le_of_ble_eq_true rfl, Nat.le_of_ble_eq_true rfl⟩ rfl rfl rfl (Nat.le_of_ble_eq_true rfl) dX1_findFault_105 fun r9 S8 => ?_
      refine g_if_eq (pc := 108) (tgt := 115) C dX1_findFault_108 (by decide) ?_ ?_
      · refine g_iconst (pc := 115) (v := 0) C dX1_findFault_115 (by decide) ?_
        refine g_istore (pc := 116) (i := 4) (j := 0) (lv2 := [(4, .int (0 : Int32)), (0, .ref (ad 2)), (1, .int x1_S7), (2, .int x2_S7), (3, .int x3_S7)]) C dX1_findFault_116 (by decide) rfl ?_
        refine g_iload (pc := 118) C dX1_findFault_118 0 rfl ?_
        refine g_if_eq (pc := 120) (tgt := 127) C dX1_findFault_120 (by decide) ?_ ?_
        · refine g_aload_n (pc := 127) C dX1_findFault_127 (i := 0) rfl 1 rfl ?_
          refine gt_X1_byteCount (pc := 128) C q108 dX1_findFault_128 ?_
          exact g_iret (pc := 131) C hr dX1_findFault_131
        · refine g_iconst (pc := 123) (v := -1) C dX1_findFault_123 (by decide) ?_
          refine g_goto (pc := 124) (tgt := 131) C dX1_findFault_124 (by decide) ?_
          exact g_iret (pc := 131) C hr dX1_findFault_131
      · refine g_iconst (pc := 111) (v := 1) C dX1_findFault_111 (by decide) ?_
        refine g_goto (pc := 112) (tgt := 116) C dX1_findFault_112 (by decide) ?_
        refine g_istore (pc := 116) (i := 4) (j := 0) (lv2 := [(4, .int (1 : Int32)), (0, .ref (ad 2)), (1, .int x1_S7), (2, .int x2_S7), (3, .int x3_S7)]) C dX1_findFault_116 (by decide) rfl ?_
        refine g_iload (pc := 118) C dX1_findFault_118 0 rfl ?_
        refine g_if_eq (pc := 120) (tgt := 127) C dX1_findFault_120 (by decide) ?_ ?_
        · refine g_aload_n (pc := 127) C dX1_findFault_127 (i := 0) rfl 1 rfl ?_
          refine gt_X1_byteCount (pc := 128) C q108 dX1_findFault_128 ?_
          exact g_iret (pc := 131) C hr dX1_findFault_131
        · refine g_iconst (pc := 123) (v := -1) C dX1_findFault_123 (by decide) ?_
          refine g_goto (pc := 124) (tgt := 131) C dX1_findFault_124 (by decide) ?_
          exact g_iret (pc := 131) C hr dX1_findFault_131
noncomputable def b_X1_layCells_9 (k : Int32 → St → Option (St)) (rec : Int32 → Int32 → St → Option (St)) (x1 : Int32) (x2 : Int32) (S : St) : Option (St) :=
if x2 < (gI S 40 0) then (
chk x2 20 <|
if (gI S 7 (ix x2)) = (59 : Int32) then (
nm (sI S 41 0 ((gI S 41 0) + (1 : Int32))) fun S5 =>
rec (0 : Int32) (x2 + 1) S5)
else
if (gI S 43 0) < (12 : Int32) then (
chk x2 20 <|
chk (gI S 43 0) 12 <|
nm (sI S 8 (ix (gI S 43 0)) ((gI S 7 (ix x2)) - (48 : Int32))) fun S2 =>
chk (gI S2 43 0) 12 <|
nm (sI S2 9 (ix (gI S2 43 0)) x1) fun S3 =>
nm (sI S3 43 0 ((gI S3 43 0) + (1 : Int32))) fun S4 =>
rec (x1 + 1) (x2 + 1) S4)
else
rec x1 (x2 + 1) S)
else
k x1 S
noncomputable def m_X1_layCells (S : St) : Option (St) :=
nm (sI S 41 0 (1 : Int32)) fun S1 =>
it2 (b_X1_layCells_9 (fun x1_S6 S6 =>
nm (sI S6 42 0 x1_S6) fun S7 =>
some S7)) 5000 (0 : Int32) (0 : Int32) S1
set_option maxRecDepth 20000 in
theorem u_X1_layCells_9 (C : Cx p s m args meth c cX1_layCells 3 RX1 D (tyX cI cJ cZ) ad n (wX ad cI cJ cZ)) (hr : meth.sig.returnType = none) (k : Int32 → St → Option (St)) (hk : ∀ (x1 : Int32) (S : St), GM p l e ({ frames := 0, cells := 0, slots := 0, locals := 0 } : Room) s m args below meth c D ad n (wX ad cI cJ cZ) 3 (QV D (wX ad cI cJ cZ) ad n args s below) (k x1 S) S 99 [(0, .ref (ad 2)), (1, .int x1)] []) (rec : Int32 → Int32 → St → Option (St)) (hrec : ∀ (x1 : Int32) (x2 : Int32) (S : St), GM p l e ({ frames := 0, cells := 0, slots := 0, locals := 0 } : Room) s m args below meth c D ad n (wX ad cI cJ cZ) 3 (QV D (wX ad cI cJ cZ) ad n args s below) (rec x1 x2 S) S 9 [(0, .ref (ad 2)), (1, .int x1), (2, .int x2)] []) (x1 : Int32) (x2 : Int32) (S : St) : GM p l e ({ frames := 0, cells := 0, slots := 0, locals := 0 } : Room) s m args below meth c D ad n (wX ad cI cJ cZ) 3 (QV D (wX ad cI cJ cZ) ad n args s below) (b_X1_layCells_9 k rec x1 x2 S) S 9 [(0, .ref (ad 2)), (1, .int x1), (2, .int x2)] [] := by
  unfold b_X1_layCells_9
  refine g_iload_n (pc := 9) C dX1_layCells_9 (i := 2) rfl 2 rfl ?_
  refine g_aload_n (pc := 10) C dX1_layCells_10 (i := 0) rfl 0 rfl ?_
  refine gt_X1_byteCount (pc := 11) C q108 dX1_layCells_11 ?_
  refine g_icmp_ge (pc := 14) (tgt := 99) C dX1_layCells_14 (by decide) ?_ ?_
  · refine g_sub [0, 1] rfl (hk _ _)
  · refine g_aload_n (pc := 17) C dX1_layCells_17 (i := 0) rfl 0 rfl ?_
    refine gt_X1_text (pc := 18) C q103 dX1_layCells_18 ?_
    refine g_iload_n (pc := 21) C dX1_layCells_21 (i := 2) rfl 2 rfl ?_
    refine al_X1_text (pc := 22) C dX1_layCells_22 ?_
    refine g_bipush (pc := 23) (v := 59) C dX1_layCells_23 (by decide) ?_
    refine g_icmp_ne (pc := 25) (tgt := 43) C dX1_layCells_25 (by decide) ?_ ?_
    · refine g_aload_n (pc := 43) C dX1_layCells_43 (i := 0) rfl 0 rfl ?_
      refine gt_X1_cellCount (pc := 44) C q112 dX1_layCells_44 ?_
      refine g_bipush (pc := 47) (v := 12) C dX1_layCells_47 (by decide) ?_
      refine g_icmp_ge (pc := 49) (tgt := 93) C dX1_layCells_49 (by decide) ?_ ?_
      · refine g_iinc (pc := 93) (v := (x2 + 1)) (lv2 := [(2, .int (x2 + 1)), (0, .ref (ad 2)), (1, .int x1)]) C dX1_layCells_93 2 rfl rfl (by decide) rfl ?_
        refine g_goto (pc := 96) (tgt := 9) C dX1_layCells_96 (by decide) ?_
        refine g_sub [1, 2, 0] rfl (hrec _ _ _)
      · refine g_aload_n (pc := 52) C dX1_layCells_52 (i := 0) rfl 0 rfl ?_
        refine gt_X1_heights (pc := 53) C q104 dX1_layCells_53 ?_
        refine g_aload_n (pc := 56) C dX1_layCells_56 (i := 0) rfl 0 rfl ?_
        refine gt_X1_cellCount (pc := 57) C q112 dX1_layCells_57 ?_
        refine g_aload_n (pc := 60) C dX1_layCells_60 (i := 0) rfl 0 rfl ?_
        refine gt_X1_text (pc := 61) C q103 dX1_layCells_61 ?_
        refine g_iload_n (pc := 64) C dX1_layCells_64 (i := 2) rfl 2 rfl ?_
        refine al_X1_text (pc := 65) C dX1_layCells_65 ?_
        refine g_bipush (pc := 66) (v := 48) C dX1_layCells_66 (by decide) ?_
        refine g_isub (pc := 68) C dX1_layCells_68 ?_
        refine as_X1_heights (pc := 69) C dX1_layCells_69 fun S2 => ?_
        refine g_aload_n (pc := 70) C dX1_layCells_70 (i := 0) rfl 0 rfl ?_
        refine gt_X1_columnsOfCells (pc := 71) C q106 dX1_layCells_71 ?_
        refine g_aload_n (pc := 74) C dX1_layCells_74 (i := 0) rfl 0 rfl ?_
        refine gt_X1_cellCount (pc := 75) C q112 dX1_layCells_75 ?_
        refine g_iload_n (pc := 78) C dX1_layCells_78 (i := 1) rfl 1 rfl ?_
        refine as_X1_columnsOfCells (pc := 79) C dX1_layCells_79 fun S3 => ?_
        refine g_aload_n (pc := 80) C dX1_layCells_80 (i := 0) rfl 0 rfl ?_
        refine g_dup (pc := 81) C dX1_layCells_81 rfl ?_
        refine gt_X1_cellCount (pc := 82) C q112 dX1_layCells_82 ?_
        refine g_iconst (pc := 85) (v := 1) C dX1_layCells_85 (by decide) ?_
        refine g_iadd (pc := 86) C dX1_layCells_86 ?_
        refine pt_X1_cellCount (pc := 87) C q112 dX1_layCells_87 fun S4 => ?_
        refine g_iinc (pc := 90) (v := (x1 + 1)) (lv2 := [(1, .int (x1 + 1)), (0, .ref (ad 2)), (2, .int x2)]) C dX1_layCells_90 1 rfl rfl (by decide) rfl ?_
        refine g_iinc (pc := 93) (v := (x2 + 1)) (lv2 := [(2, .int (x2 + 1)), (1, .int (x1 + 1)), (0, .ref (ad 2))]) C dX1_layCells_93 2 rfl rfl (by decide) rfl ?_
        refine g_goto (pc := 96) (tgt := 9) C dX1_layCells_96 (by decide) ?_
        refine g_sub [2, 1, 0] rfl (hrec _ _ _)
    · refine g_aload_n (pc := 28) C dX1_layCells_28 (i := 0) rfl 0 rfl ?_
      refine g_dup (pc := 29) C dX1_layCells_29 rfl ?_
      refine gt_X1_rowCount (pc := 30) C q109 dX1_layCells_30 ?_
      refine g_iconst (pc := 33) (v := 1) C dX1_layCells_33 (by decide) ?_
      refine g_iadd (pc := 34) C dX1_layCells_34 ?_
      refine pt_X1_rowCount (pc := 35) C q109 dX1_layCells_35 fun S5 => ?_
      refine g_iconst (pc := 38) (v := 0) C dX1_layCells_38 (by decide) ?_
      refine g_istore_n (pc := 39) (i := 1) (lv2 := [(1, .int (0 : Int32)), (0, .ref (ad 2)), (2, .int x2)]) C dX1_layCells_39 rfl (by decide) rfl ?_
      refine g_goto (pc := 40) (tgt := 93) C dX1_layCells_40 (by decide) ?_
      refine g_iinc (pc := 93) (v := (x2 + 1)) (lv2 := [(2, .int (x2 + 1)), (1, .int (0 : Int32)), (0, .ref (ad 2))]) C dX1_layCells_93 2 rfl rfl (by decide) rfl ?_
      refine g_goto (pc := 96) (tgt := 9) C dX1_layCells_96 (by decide) ?_
      refine g_sub [2, 1, 0] rfl (hrec _ _ _)
set_option maxRecDepth 20000 in
theorem c_X1_layCells {l : Launch} {D : va_G} {ad : Nat → Nat} {cI cJ cZ : ClassId} {n : Nat} (hD : ∀ sz S, va_D (Adr ad n sz) (wX ad cI cJ cZ S)) {S : St} {z : St} (hf : m_X1_layCells S = some z) : CtV l yX1_layCells cX1_layCells 3 none ({ frames := 0, cells := 0, slots := 0, locals := 0 } : Room) D (wX ad cI cJ cZ) (tyX cI cJ cZ) ad n [.ref (ad 2)] S z := by
  refine CtV.of hf (by decide +kernel) (Nat.le_of_ble_eq_true rfl) hD (fun p e s m args below meth c C hr => ?_)
  refine g_sub [0] (lv2 := [(0, .ref (ad 2))]) rfl ?_
  unfold m_X1_layCells
  refine g_iconst (pc := 0) (v := 0) C dX1_layCells_0 (by decide) ?_
  refine g_istore_n (pc := 1) (i := 1) (lv2 := [(1, .int (0 : Int32)), (0, .ref (ad 2))]) C dX1_layCells_1 rfl (by decide) rfl ?_
  refine g_aload_n (pc := 2) C dX1_layCells_2 (i := 0) rfl 1 rfl ?_
  refine g_iconst (pc := 3) (v := 1) C dX1_layCells_3 (by decide) ?_
  refine pt_X1_rowCount (pc := 4) C q109 dX1_layCells_4 fun S1 => ?_
  refine g_iconst (pc := 7) (v := 0) C dX1_layCells_7 (by decide) ?_
  refine g_istore_n (pc := 8) (i := 2) (lv2 := [(2, .int (0 : Int32)), (1, .int (0 : Int32)), (0, .ref (ad 2))]) C dX1_layCells_8 rfl (by decide) rfl ?_
  refine g_sub [2, 1, 0] (lv2 := [(0, .ref (ad 2)), (1, .int (0 : Int32)), (2, .int (0 : Int32))]) rfl ?_
  refine g_it2 (pc := 9) (u_X1_layCells_9 C hr _ fun x1_S6 S6 => ?_) _ _ _ _
  refine g_aload_n (pc := 99) C dX1_layCells_99 (i := 0) rfl 0 rfl ?_
  refine g_iload_n (pc := 100) C dX1_layCells_100 (i := 1) rfl 1 rfl ?_
  refine pt_X1_columnCount (pc := 101) C q110 dX1_layCells_101 fun S7 => ?_
  exact g_vret (pc := 104) C hr dX1_layCells_104
noncomputable def m_X1_survey (S : St) : Option (St) :=
nm (sI S 41 0 (0 : Int32)) fun S1 =>
nm (sI S1 42 0 (0 : Int32)) fun S2 =>
nm (sI S2 43 0 (0 : Int32)) fun S3 =>
bnd (m_X1_findFault S3) fun r5 S4 =>
nm (sI S4 44 0 r5) fun S6 =>
if (gI S6 44 0) = (-1 : Int32) then (
if 0 < (gI S6 40 0) then (
bndV (m_X1_layCells S6) fun S7 =>
some S7)
else
some S6)
else
some S6
set_option maxRecDepth 20000 in
theorem c_X1_survey {l : Launch} {D : va_G} {ad : Nat → Nat} {cI cJ cZ : ClassId} {n : Nat} (hD : ∀ sz S, va_D (Adr ad n sz) (wX ad cI cJ cZ S)) {S : St} {z : St} (hf : m_X1_survey S = some z) : CtV l yX1_survey cX1_survey 1 none ({ frames := 2, cells := 0, slots := 0, locals := 46 } : Room) D (wX ad cI cJ cZ) (tyX cI cJ cZ) ad n [.ref (ad 2)] S z := by
  refine CtV.of hf (by decide +kernel) (Nat.le_of_ble_eq_true rfl) hD (fun p e s m args below meth c C hr => ?_)
  refine g_sub [0] (lv2 := [(0, .ref (ad 2))]) rfl ?_
  unfold m_X1_survey
  refine g_aload_n (pc := 0) C dX1_survey_0 (i := 0) rfl 0 rfl ?_
  refine g_iconst (pc := 1) (v := 0) C dX1_survey_1 (by decide) ?_
  refine pt_X1_rowCount (pc := 2) C q109 dX1_survey_2 fun S1 => ?_
  refine g_aload_n (pc := 5) C dX1_survey_5 (i := 0) rfl 0 rfl ?_
  refine g_iconst (pc := 6) (v := 0) C dX1_survey_6 (by decide) ?_
  refine pt_X1_columnCount (pc := 7) C q110 dX1_survey_7 fun S2 => ?_
  refine g_aload_n (pc := 10) C dX1_survey_10 (i := 0) rfl 0 rfl ?_
  refine g_iconst (pc := 11) (v := 0) C dX1_survey_11 (by decide) ?_
  refine pt_X1_cellCount (pc := 12) C q112 dX1_survey_12 fun S3 => ?_
  refine g_aload_n (pc := 15) C dX1_survey_15 (i := 0) rfl 0 rfl ?_
  refine g_aload_n (pc := 16) C dX1_survey_16 (i := 0) rfl 0 rfl ?_
  refine g_callVi (pc := 17) (As := []) C q319 mw_X1_findFault (fun _ hz => c_X1_findFault C.2.2.2.2.2.2.2.1 hz) ⟨Nat.le_of_ble_eq_true rfl, Nat.le_of_ble_eq_true rfl⟩ rfl rfl 2 rfl rfl rfl (Nat.le_of_ble_eq_true rfl) dX1_survey_17 fun r5 S4 => ?_
  refine pt_X1_faultAt (pc := 20) C q113 dX1_survey_20 fun S6 => ?_
  refine g_aload_n (pc := 23) C dX1_survey_23 (i := 0) rfl 0 rfl ?_
  refine gt_X1_faultAt (pc := 24) C q113 dX1_survey_24 ?_
  refine g_iconst (pc := 27) (v := -1) C dX1_survey_27 (by decide) ?_
  refine g_icmp_ne (pc := 28) (tgt := 42) C dX1_survey_28 (by decide) ?_ ?_
  · exact g_vret (pc := 42) C hr dX1_survey_42
  · refine g_aload_n (pc := 31) C dX1_survey_31 (i := 0) rfl 0 rfl ?_
    refine gt_X1_byteCount (pc := 32) C q108 dX1_survey_32 ?_
    refine g_if_le (pc := 35) (tgt := 42) C dX1_survey_35 (by decide) ?_ ?_
    · exact g_vret (pc := 42) C hr dX1_survey_42
    · refine g_aload_n (pc := 38) C dX1_survey_38 (i := 0) rfl 0 rfl ?_
      refine g_callVv (pc := 39) (As := []) C q329 mw_X1_layCells (fun _ hz => c_X1_layCells C.2.2.2.2.2.2.2.1 hz) ⟨Nat.le_of_ble_eq_true rfl, Nat.le_of_ble_eq_true rfl⟩ rfl rfl 2 rfl rfl rfl (Nat.le_of_ble_eq_true rfl) dX1_survey_39 fun S7 => ?_
      exact g_vret (pc := 42) C hr dX1_survey_42
noncomputable def m_X1_append (x1 : Int32) (S : St) : Option (St) :=
bnd (m_X1_isFull S) fun r2 S1 =>
if r2 = 0 then (
chk (gI S1 40 0) 20 <|
nm (sI S1 7 (ix (gI S1 40 0)) x1) fun S3 =>
nm (sI S3 40 0 ((gI S3 40 0) + (1 : Int32))) fun S4 =>
bndV (m_X1_survey S4) fun S5 =>
some S5)
else
some S1
set_option maxRecDepth 20000 in
theorem c_X1_append {l : Launch} {D : va_G} {ad : Nat → Nat} {cI cJ cZ : ClassId} {n : Nat} (hD : ∀ sz S, va_D (Adr ad n sz) (wX ad cI cJ cZ S)) {x1 : Int32} {S : St} {z : St} (hf : m_X1_append x1 S = some z) : CtV l yX1_append cX1_append 2 none ({ frames := 3, cells := 0, slots := 0, locals := 66 } : Room) D (wX ad cI cJ cZ) (tyX cI cJ cZ) ad n [.ref (ad 2), .int x1] S z := by
  refine CtV.of hf (by decide +kernel) (Nat.le_of_ble_eq_true rfl) hD (fun p e s m args below meth c C hr => ?_)
  refine g_sub [0, 1] (lv2 := [(0, .ref (ad 2)), (1, .int x1)]) rfl ?_
  unfold m_X1_append
  refine g_aload_n (pc := 0) C dX1_append_0 (i := 0) rfl 0 rfl ?_
  refine g_callVi (pc := 1) (As := []) C q314 mw_X1_isFull (fun _ hz => c_X1_isFull C.2.2.2.2.2.2.2.1 hz) ⟨Nat.le_of_ble_eq_true rfl, Nat.le_of_ble_eq_true rfl⟩ rfl rfl 2 rfl rfl rfl (Nat.le_of_ble_eq_true rfl) dX1_append_1 fun r2 S1 => ?_
  refine g_if_ne (pc := 4) (tgt := 31) C dX1_append_4 (by decide) ?_ ?_
  · exact g_vret (pc := 31) C hr dX1_append_31
  · refine g_aload_n (pc := 7) C dX1_append_7 (i := 0) rfl 0 rfl ?_
    refine gt_X1_text (pc := 8) C q103 dX1_append_8 ?_
    refine g_aload_n (pc := 11) C dX1_append_11 (i := 0) rfl 0 rfl ?_
    refine gt_X1_byteCount (pc := 12) C q108 dX1_append_12 ?_
    refine g_iload_n (pc := 15) C dX1_append_15 (i := 1) rfl 1 rfl ?_
    refine as_X1_text (pc := 16) C dX1_append_16 fun S3 => ?_
    refine g_aload_n (pc := 17) C dX1_append_17 (i := 0) rfl 0 rfl ?_
    refine g_dup (pc := 18) C dX1_append_18 rfl ?_
    refine gt_X1_byteCount (pc := 19) C q108 dX1_append_19 ?_
    refine g_iconst (pc := 22) (v := 1) C dX1_append_22 (by decide) ?_
    refine g_iadd (pc := 23) C dX1_append_23 ?_
    refine pt_X1_byteCount (pc := 24) C q108 dX1_append_24 fun S4 => ?_
    refine g_aload_n (pc := 27) C dX1_append_27 (i := 0) rfl 0 rfl ?_
    refine g_callVv (pc := 28) (As := []) C q315 mw_X1_survey (fun _ hz => c_X1_survey C.2.2.2.2.2.2.2.1 hz) ⟨Nat.le_of_ble_eq_true rfl, Nat.le_of_ble_eq_true rfl⟩ rfl rfl 2 rfl rfl rfl (Nat.le_of_ble_eq_true rfl) dX1_append_28 fun S5 => ?_
    exact g_vret (pc := 31) C hr dX1_append_31
noncomputable def m_X1_cells (S : St) : Option (Int32 × St) :=
some ((gI S 43 0), S)
set_option maxRecDepth 20000 in
theorem c_X1_cells {l : Launch} {D : va_G} {ad : Nat → Nat} {cI cJ cZ : ClassId} {n : Nat} (hD : ∀ sz S, va_D (Adr ad n sz) (wX ad cI cJ cZ S)) {S : St} {z : Int32 × St} (hf : m_X1_cells S = some z) : CtI l yX1_cells cX1_cells 1 (some .int) ({ frames := 0, cells := 0, slots := 0, locals := 0 } : Room) D (wX ad cI cJ cZ) (tyX cI cJ cZ) ad n [.ref (ad 2)] S z := by
  refine CtI.of hf (by decide +kernel) (Nat.le_of_ble_eq_true rfl) hD (fun p e s m args below meth c C hr => ?_)
  refine g_sub [0] (lv2 := [(0, .ref (ad 2))]) rfl ?_
  unfold m_X1_cells
  refine g_aload_n (pc := 0) C dX1_cells_0 (i := 0) rfl 0 rfl ?_
  refine gt_X1_cellCount (pc := 1) C q112 dX1_cells_1 ?_
  exact g_iret (pc := 4) C hr dX1_cells_4
noncomputable def m_X5_reachOf (x1 : Int32) (x2 : Int32) (S : St) : Option (Int32 × St) :=
chk x1 12 <|
nm ((gI S 9 (ix x1))) fun y1 =>
if x2 = (-1 : Int32) then (
some (y1, S))
else
some ((((gI S 42 0) - (1 : Int32)) - y1), S)
set_option maxRecDepth 20000 in
theorem c_X5_reachOf {l : Launch} {D : va_G} {ad : Nat → Nat} {cI cJ cZ : ClassId} {n : Nat} (hD : ∀ sz S, va_D (Adr ad n sz) (wX ad cI cJ cZ S)) {x1 : Int32} {x2 : Int32} {S : St} {z : Int32 × St} (hf : m_X5_reachOf x1 x2 S = some z) : CtI l yX5_reachOf cX5_reachOf 4 (some .int) ({ frames := 0, cells := 0, slots := 0, locals := 0 } : Room) D (wX ad cI cJ cZ) (tyX cI cJ cZ) ad n [.ref (ad 1), .int x1, .int x2] S z := by
  refine CtI.of hf (by decide +kernel) (Nat.le_of_ble_eq_true rfl) hD (fun p e s m args below meth c C hr => ?_)
  refine g_sub [0, 1, 2] (lv2 := [(0, .ref (ad 1)), (1, .int x1), (2, .int x2)]) rfl ?_
  unfold m_X5_reachOf
  refine g_aload_n (pc := 0) C dX5_reachOf_0 (i := 0) rfl 0 rfl ?_
  refine gt_X5_ground (pc := 1) C q132 dX5_reachOf_1 ?_
  refine gtN_X1_columnsOfCells (pc := 4) C C.2.2.2.2.2.2.1.2.1 dX5_reachOf_4 ?_
  refine g_iload_n (pc := 7) C dX5_reachOf_7 (i := 1) rfl 1 rfl ?_
  refine al_X1_columnsOfCells (pc := 8) C dX5_reachOf_8 ?_
  refine g_nmi fun y1 => ?_
  refine g_istore_n (pc := 9) (i := 3) (lv2 := [(3, .int y1), (0, .ref (ad 1)), (1, .int x1), (2, .int x2)]) C dX5_reachOf_9 rfl (by decide) rfl ?_
  refine g_iload_n (pc := 10) C dX5_reachOf_10 (i := 2) rfl 3 rfl ?_
  refine g_iconst (pc := 11) (v := -1) C dX5_reachOf_11 (by decide) ?_
  refine g_icmp_ne (pc := 12) (tgt := 19) C dX5_reachOf_12 (by decide) ?_ ?_
  · refine g_aload_n (pc := 19) C dX5_reachOf_19 (i := 0) rfl 1 rfl ?_
    refine gt_X5_ground (pc := 20) C q132 dX5_reachOf_20 ?_
    refine gtN_X1_columnCount (pc := 23) C C.2.2.2.2.2.2.1.2.2 dX5_reachOf_23 ?_
    refine g_iconst (pc := 26) (v := 1) C dX5_reachOf_26 (by decide) ?_
    refine g_isub (pc := 27) C dX5_reachOf_27 ?_
    refine g_iload_n (pc := 28) C dX5_reachOf_28 (i := 3) rfl 0 rfl ?_
    refine g_isub (pc := 29) C dX5_reachOf_29 ?_
    exact g_iret (pc := 30) C hr dX5_reachOf_30
  · refine g_iload_n (pc := 15) C dX5_reachOf_15 (i := 3) rfl 0 rfl ?_
    refine g_goto (pc := 16) (tgt := 30) C dX5_reachOf_16 (by decide) ?_
    exact g_iret (pc := 30) C hr dX5_reachOf_30
noncomputable def m_X5_rise (x1 : Int32) (x2 : Int32) (S : St) : Option (Int32 × St) :=
nm ((x1 + x2)) fun y1 =>
chk y1 12 <|
chk y1 12 <|
chk x1 12 <|
some ((((gI S 8 (ix y1)) + (gI S 10 (ix y1))) - (gI S 8 (ix x1))), S)
set_option maxRecDepth 20000 in
theorem c_X5_rise {l : Launch} {D : va_G} {ad : Nat → Nat} {cI cJ cZ : ClassId} {n : Nat} (hD : ∀ sz S, va_D (Adr ad n sz) (wX ad cI cJ cZ S)) {x1 : Int32} {x2 : Int32} {S : St} {z : Int32 × St} (hf : m_X5_rise x1 x2 S = some z) : CtI l yX5_rise cX5_rise 4 (some .int) ({ frames := 0, cells := 0, slots := 0, locals := 0 } : Room) D (wX ad cI cJ cZ) (tyX cI cJ cZ) ad n [.ref (ad 1), .int x1, .int x2] S z := by
  refine CtI.of hf (by decide +kernel) (Nat.le_of_ble_eq_true rfl) hD (fun p e s m args below meth c C hr => ?_)
  refine g_sub [0, 1, 2] (lv2 := [(0, .ref (ad 1)), (1, .int x1), (2, .int x2)]) rfl ?_
  unfold m_X5_rise
  refine g_iload_n (pc := 0) C dX5_rise_0 (i := 1) rfl 1 rfl ?_
  refine g_iload_n (pc := 1) C dX5_rise_1 (i := 2) rfl 2 rfl ?_
  refine g_iadd (pc := 2) C dX5_rise_2 ?_
  refine g_nmi fun y1 => ?_
  refine g_istore_n (pc := 3) (i := 3) (lv2 := [(3, .int y1), (0, .ref (ad 1)), (1, .int x1), (2, .int x2)]) C dX5_rise_3 rfl (by decide) rfl ?_
  refine g_aload_n (pc := 4) C dX5_rise_4 (i := 0) rfl 1 rfl ?_
  refine gt_X5_ground (pc := 5) C q132 dX5_rise_5 ?_
  refine gtN_X1_heights (pc := 8) C C.2.2.2.2.2.2.1.1 dX5_rise_8 ?_
  refine g_iload_n (pc := 11) C dX5_rise_11 (i := 3) rfl 0 rfl ?_
  refine al_X1_heights (pc := 12) C dX5_rise_12 ?_
  refine g_aload_n (pc := 13) C dX5_rise_13 (i := 0) rfl 1 rfl ?_
  refine gt_X5_standing (pc := 14) C q134 dX5_rise_14 ?_
  refine g_iload_n (pc := 17) C dX5_rise_17 (i := 3) rfl 0 rfl ?_
  refine al_X5_standing (pc := 18) C dX5_rise_18 ?_
  refine g_iadd (pc := 19) C dX5_rise_19 ?_
  refine g_aload_n (pc := 20) C dX5_rise_20 (i := 0) rfl 1 rfl ?_
  refine gt_X5_ground (pc := 21) C q132 dX5_rise_21 ?_
  refine gtN_X1_heights (pc := 24) C C.2.2.2.2.2.2.1.1 dX5_rise_24 ?_
  refine g_iload_n (pc := 27) C dX5_rise_27 (i := 1) rfl 2 rfl ?_
  refine al_X1_heights (pc := 28) C dX5_rise_28 ?_
  refine g_isub (pc := 29) C dX5_rise_29 ?_
  exact g_iret (pc := 30) C hr dX5_rise_30
noncomputable def b_X5_darkHours_40 (x1 : Int32) (x2 : Int32) (x3 : Int32) (x5 : Int32) (x6 : Int32) (x7 : Int32) (x8 : Int32) (k : Int32 → St → Option (Int32 × St)) (rec : Int32 → St → Option (Int32 × St)) (x4 : Int32) (S : St) : Option (Int32 × St) :=
if x4 < (6 : Int32) then (
if (x8 * (x4 + (1 : Int32))) < x7 then (
rec (x4 + 1) S)
else
k x4 S)
else
k x4 S
noncomputable def b_X5_darkHours_14 (x1 : Int32) (x2 : Int32) (x3 : Int32) (x5 : Int32) (k : Int32 → St → Option (Int32 × St)) (rec : Int32 → Int32 → St → Option (Int32 × St)) (x4 : Int32) (x6 : Int32) (S : St) : Option (Int32 × St) :=
if x5 < x6 then (
k x4 S)
else
bnd (m_X5_rise x1 (x3 * x6) S) fun r4 S3 =>
nm ((x6 * (x2 + (1 : Int32)))) fun y5 =>
it1 (b_X5_darkHours_40 x1 x2 x3 x5 x6 r4 y5 (fun x4_S6 S6 =>
rec x4_S6 (x6 + 1) S6)) 5000 x4 S3
noncomputable def m_X5_darkHours (x1 : Int32) (x2 : Int32) (x3 : Int32) (S : St) : Option (Int32 × St) :=
bnd (m_X5_reachOf x1 x3 S) fun r2 S1 =>
it2 (b_X5_darkHours_14 x1 x2 x3 r2 (fun x4_S7 S7 =>
some (x4_S7, S7))) 5000 (0 : Int32) (1 : Int32) S1
set_option maxRecDepth 20000 in
theorem u_X5_darkHours_40 (C : Cx p s m args meth c cX5_darkHours 9 RX5 D (tyX cI cJ cZ) ad n (wX ad cI cJ cZ)) (hr : meth.sig.returnType = (some .int)) (x1 : Int32) (x2 : Int32) (x3 : Int32) (x5 : Int32) (x6 : Int32) (x7 : Int32) (x8 : Int32) (k : Int32 → St → Option (Int32 × St)) (hk : ∀ (x4 : Int32) (S : St), GM p l e ({ frames := 1, cells := 0, slots := 0, locals := 23 } : Room) s m args below meth c D ad n (wX ad cI cJ cZ) 9 (QI D (wX ad cI cJ cZ) ad n args s below) (k x4 S) S 65 [(0, .ref (ad 1)), (1, .int x1), (2, .int x2), (3, .int x3), (4, .int x4), (5, .int x5), (6, .int x6)] []) (rec : Int32 → St → Option (Int32 × St)) (hrec : ∀ (x4 : Int32) (S : St), GM p l e ({ frames := 1, cells := 0, slots := 0, locals := 23 } : Room) s m args below meth c D ad n (wX ad cI cJ cZ) 9 (QI D (wX ad cI cJ cZ) ad n args s below) (rec x4 S) S 40 [(0, .ref (ad 1)), (1, .int x1), (2, .int x2), (3, .int x3), (4, .int x4), (5, .int x5), (6, .int x6), (7, .int x7), (8, .int x8)] []) (x4 : Int32) (S : St) : GM p l e ({ frames := 1, cells := 0, slots := 0, locals := 23 } : Room) s m args below meth c D ad n (wX ad cI cJ cZ) 9 (QI D (wX ad cI cJ cZ) ad n args s below) (b_X5_darkHours_40 x1 x2 x3 x5 x6 x7 x8 k rec x4 S) S 40 [(0, .ref (ad 1)), (1, .int x1), (2, .int x2), (3, .int x3), (4, .int x4), (5, .int x5), (6, .int x6), (7, .int x7), (8, .int x8)] [] := by
  unfold b_X5_darkHours_40
  refine g_iload (pc := 40) C dX5_darkHours_40 4 rfl ?_
  refine g_bipush (pc := 42) (v := 6) C dX5_darkHours_42 (by decide) ?_
  refine g_icmp_ge (pc := 44) (tgt := 65) C dX5_darkHours_44 (by decide) ?_ ?_
  · refine g_sub [0, 1, 2, 3, 4, 5, 6] rfl (hk _ _)
  · refine g_iload (pc := 47) C dX5_darkHours_47 7 rfl ?_
    refine g_iload (pc := 49) C dX5_darkHours_49 8 rfl ?_
    refine g_iload (pc := 51) C dX5_darkHours_51 4 rfl ?_
    refine g_iconst (pc := 53) (v := 1) C dX5_darkHours_53 (by decide) ?_
    refine g_iadd (pc := 54) C dX5_darkHours_54 ?_
    refine g_imul (pc := 55) C dX5_darkHours_55 ?_
    refine g_icmp_le (pc := 56) (tgt := 65) C dX5_darkHours_56 (by decide) ?_ ?_
    · refine g_sub [0, 1, 2, 3, 4, 5, 6] rfl (hk _ _)
    · refine g_iinc (pc := 59) (v := (x4 + 1)) (lv2 := [(4, .int (x4 + 1)), (0, .ref (ad 1)), (1, .int x1), (2, .int x2), (3, .int x3), (5, .int x5), (6, .int x6), (7, .int x7), (8, .int x8)]) C dX5_darkHours_59 4 rfl rfl (by decide) rfl ?_
      refine g_goto (pc := 62) (tgt := 40) C dX5_darkHours_62 (by decide) ?_
      refine g_sub [1, 2, 3, 4, 0, 5, 6, 7, 8] rfl (hrec _ _)
set_option maxRecDepth 20000 in
theorem u_X5_darkHours_14 (C : Cx p s m args meth c cX5_darkHours 9 RX5 D (tyX cI cJ cZ) ad n (wX ad cI cJ cZ)) (hr : meth.sig.returnType = (some .int)) (x1 : Int32) (x2 : Int32) (x3 : Int32) (x5 : Int32) (k : Int32 → St → Option (Int32 × St)) (hk : ∀ (x4 : Int32) (S : St), GM p l e ({ frames := 1, cells := 0, slots := 0, locals := 23 } : Room) s m args below meth c D ad n (wX ad cI cJ cZ) 9 (QI D (wX ad cI cJ cZ) ad n args s below) (k x4 S) S 71 [(4, .int x4)] []) (rec : Int32 → Int32 → St → Option (Int32 × St)) (hrec : ∀ (x4 : Int32) (x6 : Int32) (S : St), GM p l e ({ frames := 1, cells := 0, slots := 0, locals := 23 } : Room) s m args below meth c D ad n (wX ad cI cJ cZ) 9 (QI D (wX ad cI cJ cZ) ad n args s below) (rec x4 x6 S) S 14 [(0, .ref (ad 1)), (1, .int x1), (2, .int x2), (3, .int x3), (4, .int x4), (5, .int x5), (6, .int x6)] []) (x4 : Int32) (x6 : Int32) (S : St) : GM p l e ({ frames := 1, cells := 0, slots := 0, locals := 23 } : Room) s m args below meth c D ad n (wX ad cI cJ cZ) 9 (QI D (wX ad cI cJ cZ) ad n args s below) (b_X5_darkHours_14 x1 x2 x3 x5 k rec x4 x6 S) S 14 [(0, .ref (ad 1)), (1, .int x1), (2, .int x2), (3, .int x3), (4, .int x4), (5, .int x5), (6, .int x6)] [] := by
  unfold b_X5_darkHours_14
  refine g_iload (pc := 14) C dX5_darkHours_14 6 rfl ?_
  refine g_iload (pc := 16) C dX5_darkHours_16 5 rfl ?_
  refine g_icmp_gt (pc := 18) (tgt := 71) C dX5_darkHours_18 (by decide) ?_ ?_
  · refine g_sub [4] rfl (hk _ _)
  · refine g_aload_n (pc := 21) C dX5_darkHours_21 (i := 0) rfl 0 rfl ?_
    refine g_iload_n (pc := 22) C dX5_darkHours_22 (i := 1) rfl 1 rfl ?_
    refine g_iload_n (pc := 23) C dX5_darkHours_23 (i := 3) rfl 3 rfl ?_
    refine g_iload (pc := 24) C dX5_darkHours_24 6 rfl ?_
    refine g_imul (pc := 26) C dX5_darkHours_26 ?_
    refine g_callVi (pc := 27) (As := [.int _, .int _]) C q357 mw_X5_rise (fun _ hz => c_X5_rise C.2.2.2.2.2.2.2.1 hz) ⟨Nat.le_of_ble_eq_true rfl, Nat.le_of_ble_eq_true rfl⟩ rfl rfl 1 rfl rfl rfl (Nat.le_of_ble_eq_true rfl) dX5_darkHours_27 fun r4 S3 => ?_
    refine g_istore (pc := 30) (i := 7) (j := 0) (lv2 := [(7, .int r4), (0, .ref (ad 1)), (1, .int x1), (2, .int x2), (3, .int x3), (4, .int x4), (5, .int x5), (6, .int x6)]) C dX5_darkHours_30 (by decide) rfl ?_
    refine g_iload (pc := 32) C dX5_darkHours_32 7 rfl ?_
    refine g_iload_n (pc := 34) C dX5_darkHours_34 (i := 2) rfl 3 rfl ?_
    refine g_iconst (pc := 35) (v := 1) C dX5_darkHours_35 (by decide) ?_
    refine g_iadd (pc := 36) C dX5_darkHours_36 ?_
    refine g_imul (pc := 37) C dX5_darkHours_37 ?_
    refine g_nmi fun y5 => ?_
    refine g_istore (pc := 38) (i := 8) (j := 0) (lv2 := [(8, .int y5), (7, .int r4), (0, .ref (ad 1)), (1, .int x1), (2, .int x2), (3, .int x3), (4, .int x4), (5, .int x5), (6, .int x6)]) C dX5_darkHours_38 (by decide) rfl ?_
    refine g_sub [2, 3, 4, 5, 6, 7, 8, 1, 0] (lv2 := [(0, .ref (ad 1)), (1, .int x1), (2, .int x2), (3, .int x3), (4, .int x4), (5, .int x5), (6, .int x6), (7, .int r4), (8, .int y5)]) rfl ?_
    refine g_it1 (pc := 40) (u_X5_darkHours_40 C hr _ _ _ _ _ _ _ _ fun x4_S6 S6 => ?_) _ _ _
    refine g_iinc (pc := 65) (v := (x6 + 1)) (lv2 := [(6, .int (x6 + 1)), (0, .ref (ad 1)), (1, .int x1), (2, .int x2), (3, .int x3), (4, .int x4_S6), (5, .int x5)]) C dX5_darkHours_65 6 rfl rfl (by decide) rfl ?_
    refine g_goto (pc := 68) (tgt := 14) C dX5_darkHours_68 (by decide) ?_
    refine g_sub [1, 2, 3, 4, 5, 6, 0] rfl (hrec _ _ _)
set_option maxRecDepth 20000 in
theorem c_X5_darkHours {l : Launch} {D : va_G} {ad : Nat → Nat} {cI cJ cZ : ClassId} {n : Nat} (hD : ∀ sz S, va_D (Adr ad n sz) (wX ad cI cJ cZ S)) {x1 : Int32} {x2 : Int32} {x3 : Int32} {S : St} {z : Int32 × St} (hf : m_X5_darkHours x1 x2 x3 S = some z) : CtI l yX5_darkHours cX5_darkHours 9 (some .int) ({ frames := 1, cells := 0, slots := 0, locals := 23 } : Room) D (wX ad cI cJ cZ) (tyX cI cJ cZ) ad n [.ref (ad 1), .int x1, .int x2, .int x3] S z := by
  refine CtI.of hf (by decide +kernel) (Nat.le_of_ble_eq_true rfl) hD (fun p e s m args below meth c C hr => ?_)
  refine g_sub [0, 1, 2, 3] (lv2 := [(0, .ref (ad 1)), (1, .int x1), (2, .int x2), (3, .int x3)]) rfl ?_
  unfold m_X5_darkHours
  refine g_iconst (pc := 0) (v := 0) C dX5_darkHours_0 (by decide) ?_
  refine g_istore (pc := 1) (i := 4) (j := 0) (lv2 := [(4, .int (0 : Int32)), (0, .ref (ad 1)), (1, .int x1), (2, .int x2), (3, .int x3)]) C dX5_darkHours_1 (by decide) rfl ?_
  refine g_aload_n (pc := 3) C dX5_darkHours_3 (i := 0) rfl 1 rfl ?_
  refine g_iload_n (pc := 4) C dX5_darkHours_4 (i := 1) rfl 2 rfl ?_
  refine g_iload_n (pc := 5) C dX5_darkHours_5 (i := 3) rfl 4 rfl ?_
  refine g_callVi (pc := 6) (As := [.int _, .int _]) C q353 mw_X5_reachOf (fun _ hz => c_X5_reachOf C.2.2.2.2.2.2.2.1 hz) ⟨Nat.le_of_ble_eq_true rfl, Nat.le_of_ble_eq_true rfl⟩ rfl rfl 1 rfl rfl rfl (Nat.le_of_ble_eq_true rfl) dX5_darkHours_6 fun r2 S1 => ?_
  refine g_istore (pc := 9) (i := 5) (j := 0) (lv2 := [(5, .int r2), (4, .int (0 : Int32)), (0, .ref (ad 1)), (1, .int x1), (2, .int x2), (3, .int x3)]) C dX5_darkHours_9 (by decide) rfl ?_
  refine g_iconst (pc := 11) (v := 1) C dX5_darkHours_11 (by decide) ?_
  refine g_istore (pc := 12) (i := 6) (j := 0) (lv2 := [(6, .int (1 : Int32)), (5, .int r2), (4, .int (0 : Int32)), (0, .ref (ad 1)), (1, .int x1), (2, .int x2), (3, .int x3)]) C dX5_darkHours_12 (by decide) rfl ?_
  refine g_sub [3, 4, 5, 6, 2, 1, 0] (lv2 := [(0, .ref (ad 1)), (1, .int x1), (2, .int x2), (3, .int x3), (4, .int (0 : Int32)), (5, .int r2), (6, .int (1 : Int32))]) rfl ?_
  refine g_it2 (pc := 14) (u_X5_darkHours_14 C hr _ _ _ _ _ fun x4_S7 S7 => ?_) _ _ _ _
  refine g_iload (pc := 71) C dX5_darkHours_71 0 rfl ?_
  exact g_iret (pc := 73) C hr dX5_darkHours_73
noncomputable def m_X5_bitsAsBuilt (x1 : Int32) (x2 : Int32) (S : St) : Option (Int32 × St) :=
bnd (m_X5_darkHours x1 x2 (-1 : Int32) S) fun r2 S1 =>
bnd (m_X5_darkHours x1 x2 (1 : Int32) S1) fun r4 S3 =>
some (((((63 : Int32) >>> (r2 &&& 31)) <<< (r2 &&& 31)) ||| (((63 : Int32) >>> (r4 &&& 31)) <<< ((6 : Int32) &&& 31))), S3)
set_option maxRecDepth 20000 in
theorem c_X5_bitsAsBuilt {l : Launch} {D : va_G} {ad : Nat → Nat} {cI cJ cZ : ClassId} {n : Nat} (hD : ∀ sz S, va_D (Adr ad n sz) (wX ad cI cJ cZ S)) {x1 : Int32} {x2 : Int32} {S : St} {z : Int32 × St} (hf : m_X5_bitsAsBuilt x1 x2 S = some z) : CtI l yX5_bitsAsBuilt cX5_bitsAsBuilt 5 (some .int) ({ frames := 2, cells := 0, slots := 0, locals := 51 } : Room) D (wX ad cI cJ cZ) (tyX cI cJ cZ) ad n [.ref (ad 1), .int x1, .int x2] S z := by
  refine CtI.of hf (by decide +kernel) (Nat.le_of_ble_eq_true rfl) hD (fun p e s m args below meth c C hr => ?_)
  refine g_sub [0, 1, 2] (lv2 := [(0, .ref (ad 1)), (1, .int x1), (2, .int x2)]) rfl ?_
  unfold m_X5_bitsAsBuilt
  refine g_aload_n (pc := 0) C dX5_bitsAsBuilt_0 (i := 0) rfl 0 rfl ?_
  refine g_iload_n (pc := 1) C dX5_bitsAsBuilt_1 (i := 1) rfl 1 rfl ?_
  refine g_iload_n (pc := 2) C dX5_bitsAsBuilt_2 (i := 2) rfl 2 rfl ?_
  refine g_iconst (pc := 3) (v := -1) C dX5_bitsAsBuilt_3 (by decide) ?_
  refine g_callVi (pc := 4) (As := [.int _, .int _, .int _]) C q349 mw_X5_darkHours (fun _ hz => c_X5_darkHours C.2.2.2.2.2.2.2.1 hz) ⟨Nat.le_of_ble_eq_true rfl, Nat.le_of_ble_eq_true rfl⟩ rfl rfl 1 rfl rfl rfl (Nat.le_of_ble_eq_true rfl) dX5_bitsAsBuilt_4 fun r2 S1 => ?_
  refine g_istore_n (pc := 7) (i := 3) (lv2 := [(3, .int r2), (0, .ref (ad 1)), (1, .int x1), (2, .int x2)]) C dX5_bitsAsBuilt_7 rfl (by decide) rfl ?_
  refine g_aload_n (pc := 8) C dX5_bitsAsBuilt_8 (i := 0) rfl 1 rfl ?_
  refine g_iload_n (pc := 9) C dX5_bitsAsBuilt_9 (i := 1) rfl 2 rfl ?_
  refine g_iload_n (pc := 10) C dX5_bitsAsBuilt_10 (i := 2) rfl 3 rfl ?_
  refine g_iconst (pc := 11) (v := 1) C dX5_bitsAsBuilt_11 (by decide) ?_
  refine g_callVi (pc := 12) (As := [.int _, .int _, .int _]) C q349 mw_X5_darkHours (fun _ hz => c_X5_darkHours C.2.2.2.2.2.2.2.1 hz) ⟨Nat.le_of_ble_eq_true rfl, Nat.le_of_ble_eq_true rfl⟩ rfl rfl 1 rfl rfl rfl (Nat.le_of_ble_eq_true rfl) dX5_bitsAsBuilt_12 fun r4 S3 => ?_
  refine g_istore (pc := 15) (i := 4) (j := 0) (lv2 := [(4, .int r4), (3, .int r2), (0, .ref (ad 1)), (1, .int x1), (2, .int x2)]) C dX5_bitsAsBuilt_15 (by decide) rfl ?_
  refine g_bipush (pc := 17) (v := 63) C dX5_bitsAsBuilt_17 (by decide) ?_
  refine g_iload_n (pc := 19) C dX5_bitsAsBuilt_19 (i := 3) rfl 1 rfl ?_
  refine g_ishr (pc := 20) C dX5_bitsAsBuilt_20 ?_
  refine g_iload_n (pc := 21) C dX5_bitsAsBuilt_21 (i := 3) rfl 1 rfl ?_
  refine g_ishl (pc := 22) C dX5_bitsAsBuilt_22 ?_
  refine g_bipush (pc := 23) (v := 63) C dX5_bitsAsBuilt_23 (by decide) ?_
  refine g_iload (pc := 25) C dX5_bitsAsBuilt_25 0 rfl ?_
  refine g_ishr (pc := 27) C dX5_bitsAsBuilt_27 ?_
  refine g_bipush (pc := 28) (v := 6) C dX5_bitsAsBuilt_28 (by decide) ?_
  refine g_ishl (pc := 30) C dX5_bitsAsBuilt_30 ?_
  refine g_ior (pc := 31) C dX5_bitsAsBuilt_31 ?_
  exact g_iret (pc := 32) C hr dX5_bitsAsBuilt_32
noncomputable def m_J6_bitCount_0f7a4 (x0 : Int32) (S : St) : Option (Int32 × St) :=
nm ((x0 - (((x0).toUInt32 >>> (((1 : Int32)).toUInt32 &&& Int32.toUInt32 31)).toInt32 &&& (1431655765 : Int32)))) fun y1 =>
nm (((y1 &&& (858993459 : Int32)) + (((y1).toUInt32 >>> (((2 : Int32)).toUInt32 &&& Int32.toUInt32 31)).toInt32 &&& (858993459 : Int32)))) fun y2 =>
nm (((y2 + ((y2).toUInt32 >>> (((4 : Int32)).toUInt32 &&& Int32.toUInt32 31)).toInt32) &&& (252645135 : Int32))) fun y3 =>
nm ((y3 + ((y3).toUInt32 >>> (((8 : Int32)).toUInt32 &&& Int32.toUInt32 31)).toInt32)) fun y4 =>
nm ((y4 + ((y4).toUInt32 >>> (((16 : Int32)).toUInt32 &&& Int32.toUInt32 31)).toInt32)) fun y5 =>
some ((y5 &&& (63 : Int32)), S)
set_option maxRecDepth 20000 in
theorem c_J6_bitCount_0f7a4 {l : Launch} {D : va_G} {ad : Nat → Nat} {cI cJ cZ : ClassId} {n : Nat} (hD : ∀ sz S, va_D (Adr ad n sz) (wX ad cI cJ cZ S)) {x0 : Int32} {S : St} {z : Int32 × St} (hf : m_J6_bitCount_0f7a4 x0 S = some z) : CtI l yJ6_bitCount_0f7a4 cJ6_bitCount_0f7a4 1 (some .int) ({ frames := 0, cells := 0, slots := 0, locals := 0 } : Room) D (wX ad cI cJ cZ) (tyX cI cJ cZ) ad n [.int x0] S z := by
  refine CtI.of hf (by decide +kernel) (Nat.le_of_ble_eq_true rfl) hD (fun p e s m args below meth c C hr => ?_)
  refine g_sub [0] (lv2 := [(0, .int x0)]) rfl ?_
  unfold m_J6_bitCount_0f7a4
  refine g_iload_n (pc := 0) C dJ6_bitCount_0f7a4_0 (i := 0) rfl 0 rfl ?_
  refine g_iload_n (pc := 1) C dJ6_bitCount_0f7a4_1 (i := 0) rfl 0 rfl ?_
  refine g_iconst (pc := 2) (v := 1) C dJ6_bitCount_0f7a4_2 (by decide) ?_
  refine g_iushr (pc := 3) C dJ6_bitCount_0f7a4_3 ?_
  refine g_ldcw (pc := 4) C q364 dJ6_bitCount_0f7a4_4 ?_
  refine g_iand (pc := 7) C dJ6_bitCount_0f7a4_7 ?_
  refine g_isub (pc := 8) C dJ6_bitCount_0f7a4_8 ?_
  refine g_nmi fun y1 => ?_
  refine g_istore_n (pc := 9) (i := 0) (lv2 := [(0, .int y1)]) C dJ6_bitCount_0f7a4_9 rfl (by decide) rfl ?_
  refine g_iload_n (pc := 10) C dJ6_bitCount_0f7a4_10 (i := 0) rfl 0 rfl ?_
  refine g_ldcw (pc := 11) C q365 dJ6_bitCount_0f7a4_11 ?_
  refine g_iand (pc := 14) C dJ6_bitCount_0f7a4_14 ?_
  refine g_iload_n (pc := 15) C dJ6_bitCount_0f7a4_15 (i := 0) rfl 0 rfl ?_
  refine g_iconst (pc := 16) (v := 2) C dJ6_bitCount_0f7a4_16 (by decide) ?_
  refine g_iushr (pc := 17) C dJ6_bitCount_0f7a4_17 ?_
  refine g_ldcw (pc := 18) C q365 dJ6_bitCount_0f7a4_18 ?_
  refine g_iand (pc := 21) C dJ6_bitCount_0f7a4_21 ?_
  refine g_iadd (pc := 22) C dJ6_bitCount_0f7a4_22 ?_
  refine g_nmi fun y2 => ?_
  refine g_istore_n (pc := 23) (i := 0) (lv2 := [(0, .int y2)]) C dJ6_bitCount_0f7a4_23 rfl (by decide) rfl ?_
  refine g_iload_n (pc := 24) C dJ6_bitCount_0f7a4_24 (i := 0) rfl 0 rfl ?_
  refine g_iload_n (pc := 25) C dJ6_bitCount_0f7a4_25 (i := 0) rfl 0 rfl ?_
  refine g_iconst (pc := 26) (v := 4) C dJ6_bitCount_0f7a4_26 (by decide) ?_
  refine g_iushr (pc := 27) C dJ6_bitCount_0f7a4_27 ?_
  refine g_iadd (pc := 28) C dJ6_bitCount_0f7a4_28 ?_
  refine g_ldcw (pc := 29) C q366 dJ6_bitCount_0f7a4_29 ?_
  refine g_iand (pc := 32) C dJ6_bitCount_0f7a4_32 ?_
  refine g_nmi fun y3 => ?_
  refine g_istore_n (pc := 33) (i := 0) (lv2 := [(0, .int y3)]) C dJ6_bitCount_0f7a4_33 rfl (by decide) rfl ?_
  refine g_iload_n (pc := 34) C dJ6_bitCount_0f7a4_34 (i := 0) rfl 0 rfl ?_
  refine g_iload_n (pc := 35) C dJ6_bitCount_0f7a4_35 (i := 0) rfl 0 rfl ?_
  refine g_bipush (pc := 36) (v := 8) C dJ6_bitCount_0f7a4_36 (by decide) ?_
  refine g_iushr (pc := 38) C dJ6_bitCount_0f7a4_38 ?_
  refine g_iadd (pc := 39) C dJ6_bitCount_0f7a4_39 ?_
  refine g_nmi fun y4 => ?_
  refine g_istore_n (pc := 40) (i := 0) (lv2 := [(0, .int y4)]) C dJ6_bitCount_0f7a4_40 rfl (by decide) rfl ?_
  refine g_iload_n (pc := 41) C dJ6_bitCount_0f7a4_41 (i := 0) rfl 0 rfl ?_
  refine g_iload_n (pc := 42) C dJ6_bitCount_0f7a4_42 (i := 0) rfl 0 rfl ?_
  refine g_bipush (pc := 43) (v := 16) C dJ6_bitCount_0f7a4_43 (by decide) ?_
  refine g_iushr (pc := 45) C dJ6_bitCount_0f7a4_45 ?_
  refine g_iadd (pc := 46) C dJ6_bitCount_0f7a4_46 ?_
  refine g_nmi fun y5 => ?_
  refine g_istore_n (pc := 47) (i := 0) (lv2 := [(0, .int y5)]) C dJ6_bitCount_0f7a4_47 rfl (by decide) rfl ?_
  refine g_iload_n (pc := 48) C dJ6_bitCount_0f7a4_48 (i := 0) rfl 0 rfl ?_
  refine g_bipush (pc := 49) (v := 63) C dJ6_bitCount_0f7a4_49 (by decide) ?_
  refine g_iand (pc := 51) C dJ6_bitCount_0f7a4_51 ?_
  exact g_iret (pc := 52) C hr dJ6_bitCount_0f7a4_52
noncomputable def b_X5_yearAsBuilt_4 (x1 : Int32) (k : Int32 → St → Option (Int32 × St)) (rec : Int32 → Int32 → St → Option (Int32 × St)) (x2 : Int32) (x3 : Int32) (S : St) : Option (Int32 × St) :=
if x3 < (4 : Int32) then (
bnd (m_X5_darkHours x1 x3 (-1 : Int32) S) fun r2 S1 =>
bnd (m_X5_darkHours x1 x3 (1 : Int32) S1) fun r4 S3 =>
nm ((r2 + r4)) fun y5 =>
chk x3 4 <|
nm ((x2 + (((12 : Int32) - y5) * (gI S3 11 (ix x3))))) fun y6 =>
rec y6 (x3 + 1) S3)
else
k x2 S
noncomputable def m_X5_yearAsBuilt (x1 : Int32) (S : St) : Option (Int32 × St) :=
it2 (b_X5_yearAsBuilt_4 x1 (fun x2_S7 S7 =>
some (x2_S7, S7))) 5000 (0 : Int32) (0 : Int32) S
set_option maxRecDepth 20000 in
theorem u_X5_yearAsBuilt_4 (C : Cx p s m args meth c cX5_yearAsBuilt 5 RX5 D (tyX cI cJ cZ) ad n (wX ad cI cJ cZ)) (hr : meth.sig.returnType = (some .int)) (x1 : Int32) (k : Int32 → St → Option (Int32 × St)) (hk : ∀ (x2 : Int32) (S : St), GM p l e ({ frames := 2, cells := 0, slots := 0, locals := 51 } : Room) s m args below meth c D ad n (wX ad cI cJ cZ) 5 (QI D (wX ad cI cJ cZ) ad n args s below) (k x2 S) S 47 [(2, .int x2)] []) (rec : Int32 → Int32 → St → Option (Int32 × St)) (hrec : ∀ (x2 : Int32) (x3 : Int32) (S : St), GM p l e ({ frames := 2, cells := 0, slots := 0, locals := 51 } : Room) s m args below meth c D ad n (wX ad cI cJ cZ) 5 (QI D (wX ad cI cJ cZ) ad n args s below) (rec x2 x3 S) S 4 [(0, .ref (ad 1)), (1, .int x1), (2, .int x2), (3, .int x3)] []) (x2 : Int32) (x3 : Int32) (S : St) : GM p l e ({ frames := 2, cells := 0, slots := 0, locals := 51 } : Room) s m args below meth c D ad n (wX ad cI cJ cZ) 5 (QI D (wX ad cI cJ cZ) ad n args s below) (b_X5_yearAsBuilt_4 x1 k rec x2 x3 S) S 4 [(0, .ref (ad 1)), (1, .int x1), (2, .int x2), (3, .int x3)] [] := by
  unfold b_X5_yearAsBuilt_4
  refine g_iload_n (pc := 4) C dX5_yearAsBuilt_4 (i := 3) rfl 3 rfl ?_
  refine g_iconst (pc := 5) (v := 4) C dX5_yearAsBuilt_5 (by decide) ?_
  refine g_icmp_ge (pc := 6) (tgt := 47) C dX5_yearAsBuilt_6 (by decide) ?_ ?_
  · refine g_sub [2] rfl (hk _ _)
  · refine g_aload_n (pc := 9) C dX5_yearAsBuilt_9 (i := 0) rfl 0 rfl ?_
    refine g_iload_n (pc := 10) C dX5_yearAsBuilt_10 (i := 1) rfl 1 rfl ?_
    refine g_iload_n (pc := 11) C dX5_yearAsBuilt_11 (i := 3) rfl 3 rfl ?_
    refine g_iconst (pc := 12) (v := -1) C dX5_yearAsBuilt_12 (by decide) ?_
    refine g_callVi (pc := 13) (As := [.int _, .int _, .int _]) C q349 mw_X5_darkHours (fun _ hz => c_X5_darkHours C.2.2.2.2.2.2.2.1 hz) ⟨Nat.le_of_ble_eq_true rfl, Nat.le_of_ble_eq_true rfl⟩ rfl rfl 1 rfl rfl rfl (Nat.le_of_ble_eq_true rfl) dX5_yearAsBuilt_13 fun r2 S1 => ?_
    refine g_aload_n (pc := 16) C dX5_yearAsBuilt_16 (i := 0) rfl 0 rfl ?_
    refine g_iload_n (pc := 17) C dX5_yearAsBuilt_17 (i := 1) rfl 1 rfl ?_
    refine g_iload_n (pc := 18) C dX5_yearAsBuilt_18 (i := 3) rfl 3 rfl ?_
    refine g_iconst (pc := 19) (v := 1) C dX5_yearAsBuilt_19 (by decide) ?_
    refine g_callVi (pc := 20) (As := [.int _, .int _, .int _]) C q349 mw_X5_darkHours (fun _ hz => c_X5_darkHours C.2.2.2.2.2.2.2.1 hz) ⟨Nat.le_of_ble_eq_true rfl, Nat.le_of_ble_eq_true rfl⟩ rfl rfl 1 rfl rfl rfl (Nat.le_of_ble_eq_true rfl) dX5_yearAsBuilt_20 fun r4 S3 => ?_
    refine g_iadd (pc := 23) C dX5_yearAsBuilt_23 ?_
    refine g_nmi fun y5 => ?_
    refine g_istore (pc := 24) (i := 4) (j := 0) (lv2 := [(4, .int y5), (0, .ref (ad 1)), (1, .int x1), (2, .int x2), (3, .int x3)]) C dX5_yearAsBuilt_24 (by decide) rfl ?_
    refine g_iload_n (pc := 26) C dX5_yearAsBuilt_26 (i := 2) rfl 3 rfl ?_
    refine g_bipush (pc := 27) (v := 12) C dX5_yearAsBuilt_27 (by decide) ?_
    refine g_iload (pc := 29) C dX5_yearAsBuilt_29 0 rfl ?_
    refine g_isub (pc := 31) C dX5_yearAsBuilt_31 ?_
    refine g_aload_n (pc := 32) C dX5_yearAsBuilt_32 (i := 0) rfl 1 rfl ?_
    refine gt_X5_dayCounts (pc := 33) C q135 dX5_yearAsBuilt_33 ?_
    refine g_iload_n (pc := 36) C dX5_yearAsBuilt_36 (i := 3) rfl 4 rfl ?_
    refine al_X5_dayCounts (pc := 37) C dX5_yearAsBuilt_37 ?_
    refine g_imul (pc := 38) C dX5_yearAsBuilt_38 ?_
    refine g_iadd (pc := 39) C dX5_yearAsBuilt_39 ?_
    refine g_nmi fun y6 => ?_
    refine g_istore_n (pc := 40) (i := 2) (lv2 := [(2, .int y6), (4, .int y5), (0, .ref (ad 1)), (1, .int x1), (3, .int x3)]) C dX5_yearAsBuilt_40 rfl (by decide) rfl ?_
    refine g_iinc (pc := 41) (v := (x3 + 1)) (lv2 := [(3, .int (x3 + 1)), (2, .int y6), (4, .int y5), (0, .ref (ad 1)), (1, .int x1)]) C dX5_yearAsBuilt_41 4 rfl rfl (by decide) rfl ?_
    refine g_goto (pc := 44) (tgt := 4) C dX5_yearAsBuilt_44 (by decide) ?_
    refine g_sub [3, 4, 1, 0] rfl (hrec _ _ _)
set_option maxRecDepth 20000 in
theorem c_X5_yearAsBuilt {l : Launch} {D : va_G} {ad : Nat → Nat} {cI cJ cZ : ClassId} {n : Nat} (hD : ∀ sz S, va_D (Adr ad n sz) (wX ad cI cJ cZ S)) {x1 : Int32} {S : St} {z : Int32 × St} (hf : m_X5_yearAsBuilt x1 S = some z) : CtI l yX5_yearAsBuilt cX5_yearAsBuilt 5 (some .int) ({ frames := 2, cells := 0, slots := 0, locals := 51 } : Room) D (wX ad cI cJ cZ) (tyX cI cJ cZ) ad n [.ref (ad 1), .int x1] S z := by
  refine CtI.of hf (by decide +kernel) (Nat.le_of_ble_eq_true rfl) hD (fun p e s m args below meth c C hr => ?_)
  refine g_sub [0, 1] (lv2 := [(0, .ref (ad 1)), (1, .int x1)]) rfl ?_
  unfold m_X5_yearAsBuilt
  refine g_iconst (pc := 0) (v := 0) C dX5_yearAsBuilt_0 (by decide) ?_
  refine g_istore_n (pc := 1) (i := 2) (lv2 := [(2, .int (0 : Int32)), (0, .ref (ad 1)), (1, .int x1)]) C dX5_yearAsBuilt_1 rfl (by decide) rfl ?_
  refine g_iconst (pc := 2) (v := 0) C dX5_yearAsBuilt_2 (by decide) ?_
  refine g_istore_n (pc := 3) (i := 3) (lv2 := [(3, .int (0 : Int32)), (2, .int (0 : Int32)), (0, .ref (ad 1)), (1, .int x1)]) C dX5_yearAsBuilt_3 rfl (by decide) rfl ?_
  refine g_sub [2, 3, 1, 0] (lv2 := [(0, .ref (ad 1)), (1, .int x1), (2, .int (0 : Int32)), (3, .int (0 : Int32))]) rfl ?_
  refine g_it2 (pc := 4) (u_X5_yearAsBuilt_4 C hr _ _ fun x2_S7 S7 => ?_) _ _ _ _
  refine g_iload_n (pc := 47) C dX5_yearAsBuilt_47 (i := 2) rfl 0 rfl ?_
  exact g_iret (pc := 48) C hr dX5_yearAsBuilt_48
noncomputable def b_X5_measure_15 (x1 : Int32) (k : St → Option (St)) (rec : Int32 → St → Option (St)) (x2 : Int32) (S : St) : Option (St) :=
if x2 < (4 : Int32) then (
bnd (m_X5_bitsAsBuilt x1 x2 S) fun r4 S3 =>
chk ((x1 * (4 : Int32)) + x2) 48 <|
nm (sI S3 12 (ix ((x1 * (4 : Int32)) + x2)) r4) fun S5 =>
bnd (m_J6_bitCount_0f7a4 r4 S5) fun r7 S6 =>
chk ((x1 * (4 : Int32)) + x2) 48 <|
nm (sI S6 13 (ix ((x1 * (4 : Int32)) + x2)) r7) fun S8 =>
rec (x2 + 1) S8)
else
k S
noncomputable def b_X5_measure_2 (k : St → Option (St)) (rec : Int32 → St → Option (St)) (x1 : Int32) (S : St) : Option (St) :=
bnd (m_X1_cells S) fun r2 S1 =>
if x1 < r2 then (
it1 (b_X5_measure_15 x1 (fun S9 =>
bnd (m_X5_yearAsBuilt x1 S9) fun r11 S10 =>
chk x1 12 <|
nm (sI S10 14 (ix x1) r11) fun S12 =>
rec (x1 + 1) S12)) 5000 (0 : Int32) S1)
else
k S1
noncomputable def m_X5_measure (S : St) : Option (St) :=
it1 (b_X5_measure_2 (fun S13 =>
some S13)) 5000 (0 : Int32) S
set_option maxRecDepth 20000 in
theorem u_X5_measure_15 (C : Cx p s m args meth c cX5_measure 4 RX5 D (tyX cI cJ cZ) ad n (wX ad cI cJ cZ)) (hr : meth.sig.returnType = none) (x1 : Int32) (k : St → Option (St)) (hk : ∀ (S : St), GM p l e ({ frames := 3, cells := 0, slots := 0, locals := 75 } : Room) s m args below meth c D ad n (wX ad cI cJ cZ) 4 (QV D (wX ad cI cJ cZ) ad n args s below) (k S) S 58 [(0, .ref (ad 1)), (1, .int x1)] []) (rec : Int32 → St → Option (St)) (hrec : ∀ (x2 : Int32) (S : St), GM p l e ({ frames := 3, cells := 0, slots := 0, locals := 75 } : Room) s m args below meth c D ad n (wX ad cI cJ cZ) 4 (QV D (wX ad cI cJ cZ) ad n args s below) (rec x2 S) S 15 [(0, .ref (ad 1)), (1, .int x1), (2, .int x2)] []) (x2 : Int32) (S : St) : GM p l e ({ frames := 3, cells := 0, slots := 0, locals := 75 } : Room) s m args below meth c D ad n (wX ad cI cJ cZ) 4 (QV D (wX ad cI cJ cZ) ad n args s below) (b_X5_measure_15 x1 k rec x2 S) S 15 [(0, .ref (ad 1)), (1, .int x1), (2, .int x2)] [] := by
  unfold b_X5_measure_15
  refine g_iload_n (pc := 15) C dX5_measure_15 (i := 2) rfl 2 rfl ?_
  refine g_iconst (pc := 16) (v := 4) C dX5_measure_16 (by decide) ?_
  refine g_icmp_ge (pc := 17) (tgt := 58) C dX5_measure_17 (by decide) ?_ ?_
  · refine g_sub [0, 1] rfl (hk _)
  · refine g_aload_n (pc := 20) C dX5_measure_20 (i := 0) rfl 0 rfl ?_
    refine g_iload_n (pc := 21) C dX5_measure_21 (i := 1) rfl 1 rfl ?_
    refine g_iload_n (pc := 22) C dX5_measure_22 (i := 2) rfl 2 rfl ?_
    refine g_callVi (pc := 23) (As := [.int _, .int _]) C q345 mw_X5_bitsAsBuilt (fun _ hz => c_X5_bitsAsBuilt C.2.2.2.2.2.2.2.1 hz) ⟨Nat.le_of_ble_eq_true rfl, Nat.le_of_ble_eq_true rfl⟩ rfl rfl 1 rfl rfl rfl (Nat.le_of_ble_eq_true rfl) dX5_measure_23 fun r4 S3 => ?_
    refine g_istore_n (pc := 26) (i := 3) (lv2 := [(3, .int r4), (0, .ref (ad 1)), (1, .int x1), (2, .int x2)]) C dX5_measure_26 rfl (by decide) rfl ?_
    refine g_aload_n (pc := 27) C dX5_measure_27 (i := 0) rfl 1 rfl ?_
    refine gt_X5_lightBits (pc := 28) C q136 dX5_measure_28 ?_
    refine g_iload_n (pc := 31) C dX5_measure_31 (i := 1) rfl 2 rfl ?_
    refine g_iconst (pc := 32) (v := 4) C dX5_measure_32 (by decide) ?_
    refine g_imul (pc := 33) C dX5_measure_33 ?_
    refine g_iload_n (pc := 34) C dX5_measure_34 (i := 2) rfl 3 rfl ?_
    refine g_iadd (pc := 35) C dX5_measure_35 ?_
    refine g_iload_n (pc := 36) C dX5_measure_36 (i := 3) rfl 0 rfl ?_
    refine as_X5_lightBits (pc := 37) C dX5_measure_37 fun S5 => ?_
    refine g_aload_n (pc := 38) C dX5_measure_38 (i := 0) rfl 1 rfl ?_
    refine gt_X5_sunHours (pc := 39) C q137 dX5_measure_39 ?_
    refine g_iload_n (pc := 42) C dX5_measure_42 (i := 1) rfl 2 rfl ?_
    refine g_iconst (pc := 43) (v := 4) C dX5_measure_43 (by decide) ?_
    refine g_imul (pc := 44) C dX5_measure_44 ?_
    refine g_iload_n (pc := 45) C dX5_measure_45 (i := 2) rfl 3 rfl ?_
    refine g_iadd (pc := 46) C dX5_measure_46 ?_
    refine g_iload_n (pc := 47) C dX5_measure_47 (i := 3) rfl 0 rfl ?_
    refine g_callSi (pc := 48) (As := [.int _]) C q361 mw_J6_bitCount_0f7a4 (fun _ hz => c_J6_bitCount_0f7a4 C.2.2.2.2.2.2.2.1 hz) ⟨Nat.le_of_ble_eq_true rfl, Nat.le_of_ble_eq_true rfl⟩ rfl rfl rfl (Nat.le_of_ble_eq_true rfl) dX5_measure_48 fun r7 S6 => ?_
    refine as_X5_sunHours (pc := 51) C dX5_measure_51 fun S8 => ?_
    refine g_iinc (pc := 52) (v := (x2 + 1)) (lv2 := [(2, .int (x2 + 1)), (3, .int r4), (0, .ref (ad 1)), (1, .int x1)]) C dX5_measure_52 3 rfl rfl (by decide) rfl ?_
    refine g_goto (pc := 55) (tgt := 15) C dX5_measure_55 (by decide) ?_
    refine g_sub [2, 3, 0] rfl (hrec _ _)
set_option maxRecDepth 20000 in
theorem u_X5_measure_2 (C : Cx p s m args meth c cX5_measure 4 RX5 D (tyX cI cJ cZ) ad n (wX ad cI cJ cZ)) (hr : meth.sig.returnType = none) (k : St → Option (St)) (hk : ∀ (S : St), GM p l e ({ frames := 3, cells := 0, slots := 0, locals := 75 } : Room) s m args below meth c D ad n (wX ad cI cJ cZ) 4 (QV D (wX ad cI cJ cZ) ad n args s below) (k S) S 75 [] []) (rec : Int32 → St → Option (St)) (hrec : ∀ (x1 : Int32) (S : St), GM p l e ({ frames := 3, cells := 0, slots := 0, locals := 75 } : Room) s m args below meth c D ad n (wX ad cI cJ cZ) 4 (QV D (wX ad cI cJ cZ) ad n args s below) (rec x1 S) S 2 [(0, .ref (ad 1)), (1, .int x1)] []) (x1 : Int32) (S : St) : GM p l e ({ frames := 3, cells := 0, slots := 0, locals := 75 } : Room) s m args below meth c D ad n (wX ad cI cJ cZ) 4 (QV D (wX ad cI cJ cZ) ad n args s below) (b_X5_measure_2 k rec x1 S) S 2 [(0, .ref (ad 1)), (1, .int x1)] [] := by
  unfold b_X5_measure_2
  refine g_iload_n (pc := 2) C dX5_measure_2 (i := 1) rfl 1 rfl ?_
  refine g_aload_n (pc := 3) C dX5_measure_3 (i := 0) rfl 0 rfl ?_
  refine gt_X5_ground (pc := 4) C q132 dX5_measure_4 ?_
  refine g_callVi (pc := 7) (As := []) C q341 mw_X1_cells (fun _ hz => c_X1_cells C.2.2.2.2.2.2.2.1 hz) ⟨Nat.le_of_ble_eq_true rfl, Nat.le_of_ble_eq_true rfl⟩ rfl rfl 2 rfl rfl rfl (Nat.le_of_ble_eq_true rfl) dX5_measure_7 fun r2 S1 => ?_
  refine g_icmp_ge (pc := 10) (tgt := 75) C dX5_measure_10 (by decide) ?_ ?_
  · refine g_sub [] rfl (hk _)
  · refine g_iconst (pc := 13) (v := 0) C dX5_measure_13 (by decide) ?_
    refine g_istore_n (pc := 14) (i := 2) (lv2 := [(2, .int (0 : Int32)), (0, .ref (ad 1)), (1, .int x1)]) C dX5_measure_14 rfl (by decide) rfl ?_
    refine g_sub [1, 2, 0] (lv2 := [(0, .ref (ad 1)), (1, .int x1), (2, .int (0 : Int32))]) rfl ?_
    refine g_it1 (pc := 15) (u_X5_measure_15 C hr _ _ fun S9 => ?_) _ _ _
    refine g_aload_n (pc := 58) C dX5_measure_58 (i := 0) rfl 0 rfl ?_
    refine gt_X5_cellYears (pc := 59) C q138 dX5_measure_59 ?_
    refine g_iload_n (pc := 62) C dX5_measure_62 (i := 1) rfl 1 rfl ?_
    refine g_aload_n (pc := 63) C dX5_measure_63 (i := 0) rfl 0 rfl ?_
    refine g_iload_n (pc := 64) C dX5_measure_64 (i := 1) rfl 1 rfl ?_
    refine g_callVi (pc := 65) (As := [.int _]) C q367 mw_X5_yearAsBuilt (fun _ hz => c_X5_yearAsBuilt C.2.2.2.2.2.2.2.1 hz) ⟨Nat.le_of_ble_eq_true rfl, Nat.le_of_ble_eq_true rfl⟩ rfl rfl 1 rfl rfl rfl (Nat.le_of_ble_eq_true rfl) dX5_measure_65 fun r11 S10 => ?_
    refine as_X5_cellYears (pc := 68) C dX5_measure_68 fun S12 => ?_
    refine g_iinc (pc := 69) (v := (x1 + 1)) (lv2 := [(1, .int (x1 + 1)), (0, .ref (ad 1))]) C dX5_measure_69 1 rfl rfl (by decide) rfl ?_
    refine g_goto (pc := 72) (tgt := 2) C dX5_measure_72 (by decide) ?_
    refine g_sub [1, 0] rfl (hrec _ _)
set_option maxRecDepth 20000 in
theorem c_X5_measure {l : Launch} {D : va_G} {ad : Nat → Nat} {cI cJ cZ : ClassId} {n : Nat} (hD : ∀ sz S, va_D (Adr ad n sz) (wX ad cI cJ cZ S)) {S : St} {z : St} (hf : m_X5_measure S = some z) : CtV l yX5_measure cX5_measure 4 none ({ frames := 3, cells := 0, slots := 0, locals := 75 } : Room) D (wX ad cI cJ cZ) (tyX cI cJ cZ) ad n [.ref (ad 1)] S z := by
  refine CtV.of hf (by decide +kernel) (Nat.le_of_ble_eq_true rfl) hD (fun p e s m args below meth c C hr => ?_)
  refine g_sub [0] (lv2 := [(0, .ref (ad 1))]) rfl ?_
  unfold m_X5_measure
  refine g_iconst (pc := 0) (v := 0) C dX5_measure_0 (by decide) ?_
  refine g_istore_n (pc := 1) (i := 1) (lv2 := [(1, .int (0 : Int32)), (0, .ref (ad 1))]) C dX5_measure_1 rfl (by decide) rfl ?_
  refine g_sub [1, 0] (lv2 := [(0, .ref (ad 1)), (1, .int (0 : Int32))]) rfl ?_
  refine g_it1 (pc := 2) (u_X5_measure_2 C hr _ fun S13 => ?_) _ _ _
  exact g_vret (pc := 75) C hr dX5_measure_75
noncomputable def m_X6_measureAnew (S : St) : Option (St) :=
bndV (m_X5_measure S) fun S1 =>
nm (sI S1 56 0 (0 : Int32)) fun S3 =>
nm (sI S3 57 0 (0 : Int32)) fun S4 =>
some S4
set_option maxRecDepth 20000 in
theorem c_X6_measureAnew {l : Launch} {D : va_G} {ad : Nat → Nat} {cI cJ cZ : ClassId} {n : Nat} (hD : ∀ sz S, va_D (Adr ad n sz) (wX ad cI cJ cZ S)) {S : St} {z : St} (hf : m_X6_measureAnew S = some z) : CtV l yX6_measureAnew cX6_measureAnew 1 none ({ frames := 4, cells := 0, slots := 0, locals := 98 } : Room) D (wX ad cI cJ cZ) (tyX cI cJ cZ) ad n [.ref (ad 0)] S z := by
  refine CtV.of hf (by decide +kernel) (Nat.le_of_ble_eq_true rfl) hD (fun p e s m args below meth c C hr => ?_)
  refine g_sub [0] (lv2 := [(0, .ref (ad 0))]) rfl ?_
  unfold m_X6_measureAnew
  refine g_aload_n (pc := 0) C dX6_measureAnew_0 (i := 0) rfl 0 rfl ?_
  refine gt_X6_sun (pc := 1) C q247 dX6_measureAnew_1 ?_
  refine g_callVv (pc := 4) (As := []) C q337 mw_X5_measure (fun _ hz => c_X5_measure C.2.2.2.2.2.2.2.1 hz) ⟨Nat.le_of_ble_eq_true rfl, Nat.le_of_ble_eq_true rfl⟩ rfl rfl 1 rfl rfl rfl (Nat.le_of_ble_eq_true rfl) dX6_measureAnew_4 fun S1 => ?_
  refine g_aload_n (pc := 7) C dX6_measureAnew_7 (i := 0) rfl 0 rfl ?_
  refine g_iconst (pc := 8) (v := 0) C dX6_measureAnew_8 (by decide) ?_
  refine pt_X6_partsKnown (pc := 9) C (Or.inl rfl) q262 dX6_measureAnew_9 fun S3 => ?_
  refine g_aload_n (pc := 12) C dX6_measureAnew_12 (i := 0) rfl 0 rfl ?_
  refine g_iconst (pc := 13) (v := 0) C dX6_measureAnew_13 (by decide) ?_
  refine pt_X6_plantsKnown (pc := 14) C (Or.inl rfl) q263 dX6_measureAnew_14 fun S4 => ?_
  exact g_vret (pc := 17) C hr dX6_measureAnew_17
noncomputable def m_X1_bytes (S : St) : Option (Int32 × St) :=
some ((gI S 40 0), S)
set_option maxRecDepth 20000 in
theorem c_X1_bytes {l : Launch} {D : va_G} {ad : Nat → Nat} {cI cJ cZ : ClassId} {n : Nat} (hD : ∀ sz S, va_D (Adr ad n sz) (wX ad cI cJ cZ S)) {S : St} {z : Int32 × St} (hf : m_X1_bytes S = some z) : CtI l yX1_bytes cX1_bytes 1 (some .int) ({ frames := 0, cells := 0, slots := 0, locals := 0 } : Room) D (wX ad cI cJ cZ) (tyX cI cJ cZ) ad n [.ref (ad 2)] S z := by
  refine CtI.of hf (by decide +kernel) (Nat.le_of_ble_eq_true rfl) hD (fun p e s m args below meth c C hr => ?_)
  refine g_sub [0] (lv2 := [(0, .ref (ad 2))]) rfl ?_
  unfold m_X1_bytes
  refine g_aload_n (pc := 0) C dX1_bytes_0 (i := 0) rfl 0 rfl ?_
  refine gt_X1_byteCount (pc := 1) C q108 dX1_bytes_1 ?_
  exact g_iret (pc := 4) C hr dX1_bytes_4
noncomputable def m_X6_type (x1 : Int32) (S : St) : Option (Int32 × St) :=
bnd (m_X6_isBelow x1 (256 : Int32) S) fun r2 S1 =>
if r2 = 0 then (
some ((-2 : Int32), S1))
else
bnd (m_X1_isFull S1) fun r4 S3 =>
if r4 = 0 then (
bndV (m_X1_append x1 S3) fun S5 =>
bndV (m_X6_measureAnew S5) fun S7 =>
bnd (m_X1_bytes S7) fun r10 S9 =>
some (r10, S9))
else
some ((-4 : Int32), S3)
set_option maxRecDepth 20000 in
theorem c_X6_type {l : Launch} {D : va_G} {ad : Nat → Nat} {cI cJ cZ : ClassId} {n : Nat} (hD : ∀ sz S, va_D (Adr ad n sz) (wX ad cI cJ cZ S)) {x1 : Int32} {S : St} {z : Int32 × St} (hf : m_X6_type x1 S = some z) : CtI l yX6_type cX6_type 2 (some .int) ({ frames := 5, cells := 0, slots := 0, locals := 118 } : Room) D (wX ad cI cJ cZ) (tyX cI cJ cZ) ad n [.ref (ad 0), .int x1] S z := by
  refine CtI.of hf (by decide +kernel) (Nat.le_of_ble_eq_true rfl) hD (fun p e s m args below meth c C hr => ?_)
  refine g_sub [0, 1] (lv2 := [(0, .ref (ad 0)), (1, .int x1)]) rfl ?_
  unfold m_X6_type
  refine g_iload_n (pc := 0) C dX6_type_0 (i := 1) rfl 1 rfl ?_
  refine g_sipush (pc := 1) (v := 256) C dX6_type_1 (by decide) ?_
  refine g_callSi (pc := 4) (As := [.int _, .int _]) C q303 mw_X6_isBelow (fun _ hz => c_X6_isBelow C.2.2.2.2.2.2.2.1 hz) ⟨Nat.le_of_ble_eq_true rfl, Nat.le_of_ble_eq_true rfl⟩ rfl rfl rfl (Nat.le_of_ble_eq_true rfl) dX6_type_4 fun r2 S1 => ?_
  refine g_if_ne (pc := 7) (tgt := 13) C dX6_type_7 (by decide) ?_ ?_
  · refine g_aload_n (pc := 13) C dX6_type_13 (i := 0) rfl 0 rfl ?_
    refine gt_X6_ground (pc := 14) C q248 dX6_type_14 ?_
    refine g_callVi (pc := 17) (As := []) C q306 mw_X1_isFull (fun _ hz => c_X1_isFull C.2.2.2.2.2.2.2.1 hz) ⟨Nat.le_of_ble_eq_true rfl, Nat.le_of_ble_eq_true rfl⟩ rfl rfl 2 rfl rfl rfl (Nat.le_of_ble_eq_true rfl) dX6_type_17 fun r4 S3 => ?_
    refine g_if_eq (pc := 20) (tgt := 26) C dX6_type_20 (by decide) ?_ ?_
    · refine g_aload_n (pc := 26) C dX6_type_26 (i := 0) rfl 0 rfl ?_
      refine gt_X6_ground (pc := 27) C q248 dX6_type_27 ?_
      refine g_iload_n (pc := 30) C dX6_type_30 (i := 1) rfl 1 rfl ?_
      refine g_callVv (pc := 31) (As := [.int _]) C q310 mw_X1_append (fun _ hz => c_X1_append C.2.2.2.2.2.2.2.1 hz) ⟨Nat.le_of_ble_eq_true rfl, Nat.le_of_ble_eq_true rfl⟩ rfl rfl 2 rfl rfl rfl (Nat.le_of_ble_eq_true rfl) dX6_type_31 fun S5 => ?_
      refine g_aload_n (pc := 34) C dX6_type_34 (i := 0) rfl 0 rfl ?_
      refine g_callVv (pc := 35) (As := []) C q333 mw_X6_measureAnew (fun _ hz => c_X6_measureAnew C.2.2.2.2.2.2.2.1 hz) ⟨Nat.le_of_ble_eq_true rfl, Nat.le_of_ble_eq_true rfl⟩ rfl rfl 0 rfl rfl rfl (Nat.le_of_ble_eq_true rfl) dX6_type_35 fun S7 => ?_
      refine g_aload_n (pc := 38) C dX6_type_38 (i := 0) rfl 0 rfl ?_
      refine gt_X6_ground (pc := 39) C q248 dX6_type_39 ?_
      refine g_callVi (pc := 42) (As := []) C q371 mw_X1_bytes (fun _ hz => c_X1_bytes C.2.2.2.2.2.2.2.1 hz) ⟨Nat.le_of_ble_eq_true rfl, Nat.le_of_ble_eq_true rfl⟩ rfl rfl 2 rfl rfl rfl (Nat.le_of_ble_eq_true rfl) dX6_type_42 fun r10 S9 => ?_
      exact g_iret (pc := 45) C hr dX6_type_45
    · refine g_bipush (pc := 23) (v := -4) C dX6_type_23 (by decide) ?_
      exact g_iret (pc := 25) C hr dX6_type_25
  · refine g_bipush (pc := 10) (v := -2) C dX6_type_10 (by decide) ?_
    exact g_iret (pc := 12) C hr dX6_type_12
end MM
