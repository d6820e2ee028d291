section MM
variable {p : Program} {l : Launch} {e : Env} {s : State} {m : MethodId} {args : Array Value} {below : List Frame} {meth : Method} {c : Code} {D : va_G} {ad : Nat → Nat} {n : Nat} {cI cJ cZ : ClassId}
noncomputable def m_X7_in (x0 : Int32) (x1 : Int32) (x2 : Int32) (S : St) : Option (Int32 × St) :=
if x0 < x1 then (
some ((0 : Int32), S))
else
if x2 < x0 then (
some ((0 : Int32), S))
else
some ((1 : Int32), S)
set_option maxRecDepth 20000 in
theorem c_X7_in {l : Launch} {D : va_G} {ad : Nat → Nat} {cI cJ cZ : ClassId} {n : Nat} (hD : ∀ sz S, va_D (Adr ad n sz) (wM ad cI cJ cZ S)) {x0 : Int32} {x1 : Int32} {x2 : Int32} {S : St} {z : Int32 × St} (hf : m_X7_in x0 x1 x2 S = some z) : CtI l yX7_in cX7_in 3 (some .boolean) ({ frames := 0, cells := 0, slots := 0, locals := 0 } : Room) D (wM ad cI cJ cZ) (tyX cI cJ cZ) ad n [.int x0, .int x1, .int x2] S z := by
  refine CtI.of hf (by decide +kernel) (Nat.le_of_ble_eq_true rfl) hD (fun p e s m args below meth c C hr => ?_)
  refine g_sub [0, 1, 2] (lv2 := [(0, .int x0), (1, .int x1), (2, .int x2)]) rfl ?_
  unfold m_X7_in
  refine g_iload_n (pc := 0) C dX7_in_0 (i := 0) rfl 0 rfl ?_
  refine g_iload_n (pc := 1) C dX7_in_1 (i := 1) rfl 1 rfl ?_
  refine g_icmp_lt (pc := 2) (tgt := 14) C dX7_in_2 (by decide) ?_ ?_
  · refine g_iconst (pc := 14) (v := 0) C dX7_in_14 (by decide) ?_
    exact g_zretq (pc := 15) C hr (Or.inl rfl) dX7_in_15
  · refine g_iload_n (pc := 5) C dX7_in_5 (i := 0) rfl 0 rfl ?_
    refine g_iload_n (pc := 6) C dX7_in_6 (i := 2) rfl 2 rfl ?_
    refine g_icmp_gt (pc := 7) (tgt := 14) C dX7_in_7 (by decide) ?_ ?_
    · refine g_iconst (pc := 14) (v := 0) C dX7_in_14 (by decide) ?_
      exact g_zretq (pc := 15) C hr (Or.inl rfl) dX7_in_15
    · refine g_iconst (pc := 10) (v := 1) C dX7_in_10 (by decide) ?_
      refine g_goto (pc := 11) (tgt := 15) C dX7_in_11 (by decide) ?_
      exact g_zretq (pc := 15) C hr (Or.inr rfl) dX7_in_15
noncomputable def m_X7_isIn (x0 : Int32) (x1 : Int32) (S : St) : Option (Int32 × St) :=
if ((x0 >>> (x1 &&& 31)) &&& (1 : Int32)) = (1 : Int32) then (
some ((1 : Int32), S))
else
some ((0 : Int32), S)
set_option maxRecDepth 20000 in
theorem c_X7_isIn {l : Launch} {D : va_G} {ad : Nat → Nat} {cI cJ cZ : ClassId} {n : Nat} (hD : ∀ sz S, va_D (Adr ad n sz) (wM ad cI cJ cZ S)) {x0 : Int32} {x1 : Int32} {S : St} {z : Int32 × St} (hf : m_X7_isIn x0 x1 S = some z) : CtI l yX7_isIn cX7_isIn 2 (some .boolean) ({ frames := 0, cells := 0, slots := 0, locals := 0 } : Room) D (wM ad cI cJ cZ) (tyX cI cJ cZ) ad n [.int x0, .int x1] S z := by
  refine CtI.of hf (by decide +kernel) (Nat.le_of_ble_eq_true rfl) hD (fun p e s m args below meth c C hr => ?_)
  refine g_sub [0, 1] (lv2 := [(0, .int x0), (1, .int x1)]) rfl ?_
  unfold m_X7_isIn
  refine g_iload_n (pc := 0) C dX7_isIn_0 (i := 0) rfl 0 rfl ?_
  refine g_iload_n (pc := 1) C dX7_isIn_1 (i := 1) rfl 1 rfl ?_
  refine g_ishr (pc := 2) C dX7_isIn_2 ?_
  refine g_iconst (pc := 3) (v := 1) C dX7_isIn_3 (by decide) ?_
  refine g_iand (pc := 4) C dX7_isIn_4 ?_
  refine g_iconst (pc := 5) (v := 1) C dX7_isIn_5 (by decide) ?_
  refine g_icmp_ne (pc := 6) (tgt := 13) C dX7_isIn_6 (by decide) ?_ ?_
  · refine g_iconst (pc := 13) (v := 0) C dX7_isIn_13 (by decide) ?_
    exact g_zretq (pc := 14) C hr (Or.inl rfl) dX7_isIn_14
  · refine g_iconst (pc := 9) (v := 1) C dX7_isIn_9 (by decide) ?_
    refine g_goto (pc := 10) (tgt := 14) C dX7_isIn_10 (by decide) ?_
    exact g_zretq (pc := 14) C hr (Or.inr rfl) dX7_isIn_14
noncomputable def b_X7_ones_4 (x0 : Int32) (k : Int32 → St → Option (Int32 × St)) (rec : Int32 → Int32 → St → Option (Int32 × St)) (x1 : Int32) (x2 : Int32) (S : St) : Option (Int32 × St) :=
if x2 < (12 : Int32) then (
nm ((x1 + ((x0 >>> (x2 &&& 31)) &&& (1 : Int32)))) fun y1 =>
rec y1 (x2 + 1) S)
else
k x1 S
noncomputable def m_X7_ones (x0 : Int32) (S : St) : Option (Int32 × St) :=
it2 (b_X7_ones_4 x0 (fun x1_S2 S2 =>
some (x1_S2, S2))) 5000 (0 : Int32) (0 : Int32) S
set_option maxRecDepth 20000 in
theorem u_X7_ones_4 (C : Cx p s m args meth c cX7_ones 3 RX7 D (tyX cI cJ cZ) ad n (wM ad cI cJ cZ)) (hr : meth.sig.returnType = (some .int)) (x0 : Int32) (k : Int32 → St → Option (Int32 × St)) (hk : ∀ (x1 : Int32) (S : St), GM p l e ({ frames := 0, cells := 0, slots := 0, locals := 0 } : Room) s m args below meth c D ad n (wM ad cI cJ cZ) 3 (QI D (wM ad cI cJ cZ) ad n args s below) (k x1 S) S 24 [(1, .int x1)] []) (rec : Int32 → Int32 → St → Option (Int32 × St)) (hrec : ∀ (x1 : Int32) (x2 : Int32) (S : St), GM p l e ({ frames := 0, cells := 0, slots := 0, locals := 0 } : Room) s m args below meth c D ad n (wM ad cI cJ cZ) 3 (QI D (wM ad cI cJ cZ) ad n args s below) (rec x1 x2 S) S 4 [(0, .int x0), (1, .int x1), (2, .int x2)] []) (x1 : Int32) (x2 : Int32) (S : St) : GM p l e ({ frames := 0, cells := 0, slots := 0, locals := 0 } : Room) s m args below meth c D ad n (wM ad cI cJ cZ) 3 (QI D (wM ad cI cJ cZ) ad n args s below) (b_X7_ones_4 x0 k rec x1 x2 S) S 4 [(0, .int x0), (1, .int x1), (2, .int x2)] [] := by
  unfold b_X7_ones_4
  refine g_iload_n (pc := 4) C dX7_ones_4 (i := 2) rfl 2 rfl ?_
  refine g_bipush (pc := 5) (v := 12) C dX7_ones_5 (by decide) ?_
  refine g_icmp_ge (pc := 7) (tgt := 24) C dX7_ones_7 (by decide) ?_ ?_
  · refine g_sub [1] rfl (hk _ _)
  · refine g_iload_n (pc := 10) C dX7_ones_10 (i := 1) rfl 1 rfl ?_
    refine g_iload_n (pc := 11) C dX7_ones_11 (i := 0) rfl 0 rfl ?_
    refine g_iload_n (pc := 12) C dX7_ones_12 (i := 2) rfl 2 rfl ?_
    refine g_ishr (pc := 13) C dX7_ones_13 ?_
    refine g_iconst (pc := 14) (v := 1) C dX7_ones_14 (by decide) ?_
    refine g_iand (pc := 15) C dX7_ones_15 ?_
    refine g_iadd (pc := 16) C dX7_ones_16 ?_
    refine g_nmi fun y1 => ?_
    refine g_istore_n (pc := 17) (i := 1) (lv2 := [(1, .int y1), (0, .int x0), (2, .int x2)]) C dX7_ones_17 rfl (by decide) rfl ?_
    refine g_iinc (pc := 18) (v := (x2 + 1)) (lv2 := [(2, .int (x2 + 1)), (1, .int y1), (0, .int x0)]) C dX7_ones_18 2 rfl rfl (by decide) rfl ?_
    refine g_goto (pc := 21) (tgt := 4) C dX7_ones_21 (by decide) ?_
    refine g_sub [2, 1, 0] rfl (hrec _ _ _)
set_option maxRecDepth 20000 in
theorem c_X7_ones {l : Launch} {D : va_G} {ad : Nat → Nat} {cI cJ cZ : ClassId} {n : Nat} (hD : ∀ sz S, va_D (Adr ad n sz) (wM ad cI cJ cZ S)) {x0 : Int32} {S : St} {z : Int32 × St} (hf : m_X7_ones x0 S = some z) : CtI l yX7_ones cX7_ones 3 (some .int) ({ frames := 0, cells := 0, slots := 0, locals := 0 } : Room) D (wM ad cI cJ cZ) (tyX cI cJ cZ) ad n [.int x0] S z := by
  refine CtI.of hf (by decide +kernel) (Nat.le_of_ble_eq_true rfl) hD (fun p e s m args below meth c C hr => ?_)
  refine g_sub [0] (lv2 := [(0, .int x0)]) rfl ?_
  unfold m_X7_ones
  refine g_iconst (pc := 0) (v := 0) C dX7_ones_0 (by decide) ?_
  refine g_istore_n (pc := 1) (i := 1) (lv2 := [(1, .int (0 : Int32)), (0, .int x0)]) C dX7_ones_1 rfl (by decide) rfl ?_
  refine g_iconst (pc := 2) (v := 0) C dX7_ones_2 (by decide) ?_
  refine g_istore_n (pc := 3) (i := 2) (lv2 := [(2, .int (0 : Int32)), (1, .int (0 : Int32)), (0, .int x0)]) C dX7_ones_3 rfl (by decide) rfl ?_
  refine g_sub [2, 1, 0] (lv2 := [(0, .int x0), (1, .int (0 : Int32)), (2, .int (0 : Int32))]) rfl ?_
  refine g_it2 (pc := 4) (u_X7_ones_4 C hr _ _ fun x1_S2 S2 => ?_) _ _ _ _
  refine g_iload_n (pc := 24) C dX7_ones_24 (i := 1) rfl 0 rfl ?_
  exact g_iret (pc := 25) C hr dX7_ones_25
noncomputable def m_X7_no (x0 : Int32) (S : St) : Option (Int64 × St) :=
some (((-9223372036854775808 : Int64) - (x0).toInt64), S)
set_option maxRecDepth 20000 in
theorem c_X7_no {l : Launch} {D : va_G} {ad : Nat → Nat} {cI cJ cZ : ClassId} {n : Nat} (hD : ∀ sz S, va_D (Adr ad n sz) (wM ad cI cJ cZ S)) {x0 : Int32} {S : St} {z : Int64 × St} (hf : m_X7_no x0 S = some z) : CtL l yX7_no cX7_no 1 (some .long) ({ frames := 0, cells := 0, slots := 0, locals := 0 } : Room) D (wM ad cI cJ cZ) (tyX cI cJ cZ) ad n [.int x0] S z := by
  refine CtL.of hf (by decide +kernel) (Nat.le_of_ble_eq_true rfl) hD (fun p e s m args below meth c C hr => ?_)
  refine g_sub [0] (lv2 := [(0, .int x0)]) rfl ?_
  unfold m_X7_no
  refine g_ldc2 (pc := 0) C q1213 dX7_no_0 ?_
  refine g_iload_n (pc := 3) C dX7_no_3 (i := 0) rfl 0 rfl ?_
  refine g_i2l (pc := 4) C dX7_no_4 ?_
  refine g_lsub (pc := 5) C dX7_no_5 ?_
  exact g_lret (pc := 6) C hr dX7_no_6
noncomputable def b_X7_lowest_6 (x0 : Int64) (x2 : Int64) (x4 : Int32) (k : Int64 → St → Option (Int64 × St)) (rec : Int64 → Int64 → St → Option (Int64 × St)) (x5 : Int64) (x7 : Int64) (S : St) : Option (Int64 × St) :=
if (lg_cmp x7 (0 : Int64)) = 0 then (
k x5 S)
else
dchkL x7 <|
nm ((x5 - x5 / x7 * x7)) fun y1 =>
rec x7 y1 S
noncomputable def m_X7_lowest (x0 : Int64) (x2 : Int64) (x4 : Int32) (S : St) : Option (Int64 × St) :=
it2 (b_X7_lowest_6 x0 x2 x4 (fun x5_S2 S2 =>
if x4 = 0 then (
dchkL x5_S2 <|
some ((x0 / x5_S2), S2))
else
dchkL x5_S2 <|
some ((x2 / x5_S2), S2))) 5000 x0 x2 S
set_option maxRecDepth 20000 in
theorem u_X7_lowest_6 (C : Cx p s m args meth c cX7_lowest 11 RX7 D (tyX cI cJ cZ) ad n (wM ad cI cJ cZ)) (hr : meth.sig.returnType = (some .long)) (x0 : Int64) (x2 : Int64) (x4 : Int32) (k : Int64 → St → Option (Int64 × St)) (hk : ∀ (x5 : Int64) (S : St), GM p l e ({ frames := 0, cells := 0, slots := 0, locals := 0 } : Room) s m args below meth c D ad n (wM ad cI cJ cZ) 11 (QL D (wM ad cI cJ cZ) ad n args s below) (k x5 S) S 31 [(0, .long x0), (2, .long x2), (4, .int x4), (5, .long x5)] []) (rec : Int64 → Int64 → St → Option (Int64 × St)) (hrec : ∀ (x5 : Int64) (x7 : Int64) (S : St), GM p l e ({ frames := 0, cells := 0, slots := 0, locals := 0 } : Room) s m args below meth c D ad n (wM ad cI cJ cZ) 11 (QL D (wM ad cI cJ cZ) ad n args s below) (rec x5 x7 S) S 6 [(0, .long x0), (2, .long x2), (4, .int x4), (5, .long x5), (7, .long x7)] []) (x5 : Int64) (x7 : Int64) (S : St) : GM p l e ({ frames := 0, cells := 0, slots := 0, locals := 0 } : Room) s m args below meth c D ad n (wM ad cI cJ cZ) 11 (QL D (wM ad cI cJ cZ) ad n args s below) (b_X7_lowest_6 x0 x2 x4 k rec x5 x7 S) S 6 [(0, .long x0), (2, .long x2), (4, .int x4), (5, .long x5), (7, .long x7)] [] := by
  unfold b_X7_lowest_6
  refine g_lload (pc := 6) C dX7_lowest_6 4 rfl ?_
  refine g_lconst (pc := 8) (v := 0) C dX7_lowest_8 rfl ?_
  refine g_lcmp (pc := 9) C dX7_lowest_9 ?_
  refine g_if_eq (pc := 10) (tgt := 31) C dX7_lowest_10 (by decide) ?_ ?_
  · refine g_sub [0, 1, 2, 3] rfl (hk _ _)
  · refine g_lload (pc := 13) C dX7_lowest_13 3 rfl ?_
    refine g_lload (pc := 15) C dX7_lowest_15 4 rfl ?_
    refine g_lrem (pc := 17) C dX7_lowest_17 ?_
    refine g_nml fun y1 => ?_
    refine g_lstore (pc := 18) (i := 9) (j := 0) (lv2 := [(9, .long y1), (0, .long x0), (2, .long x2), (4, .int x4), (5, .long x5), (7, .long x7)]) C dX7_lowest_18 (by decide) rfl ?_
    refine g_lload (pc := 20) C dX7_lowest_20 5 rfl ?_
    refine g_lstore (pc := 22) (i := 5) (j := 0) (lv2 := [(5, .long x7), (9, .long y1), (0, .long x0), (2, .long x2), (4, .int x4), (7, .long x7)]) C dX7_lowest_22 (by decide) rfl ?_
    refine g_lload (pc := 24) C dX7_lowest_24 1 rfl ?_
    refine g_lstore (pc := 26) (i := 7) (j := 0) (lv2 := [(7, .long y1), (5, .long x7), (9, .long y1), (0, .long x0), (2, .long x2), (4, .int x4)]) C dX7_lowest_26 (by decide) rfl ?_
    refine g_goto (pc := 28) (tgt := 6) C dX7_lowest_28 (by decide) ?_
    refine g_sub [3, 4, 5, 1, 0] rfl (hrec _ _ _)
set_option maxRecDepth 20000 in
theorem c_X7_lowest {l : Launch} {D : va_G} {ad : Nat → Nat} {cI cJ cZ : ClassId} {n : Nat} (hD : ∀ sz S, va_D (Adr ad n sz) (wM ad cI cJ cZ S)) {x0 : Int64} {x2 : Int64} {x4 : Int32} {S : St} {z : Int64 × St} (hf : m_X7_lowest x0 x2 x4 S = some z) : CtL l yX7_lowest cX7_lowest 11 (some .long) ({ frames := 0, cells := 0, slots := 0, locals := 0 } : Room) D (wM ad cI cJ cZ) (tyX cI cJ cZ) ad n [.long x0, .long x2, .int x4] S z := by
  refine CtL.of hf (by decide +kernel) (Nat.le_of_ble_eq_true rfl) hD (fun p e s m args below meth c C hr => ?_)
  refine g_sub [0, 1, 2] (lv2 := [(0, .long x0), (2, .long x2), (4, .int x4)]) rfl ?_
  unfold m_X7_lowest
  refine g_lload_n (pc := 0) C dX7_lowest_0 (i := 0) rfl 0 rfl ?_
  refine g_lstore (pc := 1) (i := 5) (j := 0) (lv2 := [(5, .long x0), (0, .long x0), (2, .long x2), (4, .int x4)]) C dX7_lowest_1 (by decide) rfl ?_
  refine g_lload_n (pc := 3) C dX7_lowest_3 (i := 2) rfl 2 rfl ?_
  refine g_lstore (pc := 4) (i := 7) (j := 0) (lv2 := [(7, .long x2), (5, .long x0), (0, .long x0), (2, .long x2), (4, .int x4)]) C dX7_lowest_4 (by decide) rfl ?_
  refine g_sub [2, 3, 4, 1, 0] (lv2 := [(0, .long x0), (2, .long x2), (4, .int x4), (5, .long x0), (7, .long x2)]) rfl ?_
  refine g_it2 (pc := 6) (u_X7_lowest_6 C hr _ _ _ _ fun x5_S2 S2 => ?_) _ _ _ _
  refine g_iload (pc := 31) C dX7_lowest_31 2 rfl ?_
  refine g_if_ne (pc := 33) (tgt := 43) C dX7_lowest_33 (by decide) ?_ ?_
  · refine g_lload_n (pc := 43) C dX7_lowest_43 (i := 2) rfl 1 rfl ?_
    refine g_lload (pc := 44) C dX7_lowest_44 3 rfl ?_
    refine g_ldiv (pc := 46) C dX7_lowest_46 ?_
    exact g_lret (pc := 47) C hr dX7_lowest_47
  · refine g_lload_n (pc := 36) C dX7_lowest_36 (i := 0) rfl 0 rfl ?_
    refine g_lload (pc := 37) C dX7_lowest_37 3 rfl ?_
    refine g_ldiv (pc := 39) C dX7_lowest_39 ?_
    refine g_goto (pc := 40) (tgt := 47) C dX7_lowest_40 (by decide) ?_
    exact g_lret (pc := 47) C hr dX7_lowest_47
noncomputable def m_X7_type (x1 : Int32) (S : St) : Option (Int32 × St) :=
bnd (m_X7_in x1 (0 : Int32) (255 : Int32) S) fun r2 S1 =>
if r2 = 0 then (
some ((-2 : Int32), S1))
else
if (gI S1 40 0) = (20 : Int32) then (
some ((-4 : Int32), S1))
else
chk (gI S1 40 0) 20 <|
nm (sI S1 1 (ix (gI S1 40 0)) x1) fun S3 =>
nm (sI S3 40 0 ((gI S3 40 0) + (1 : Int32))) fun S4 =>
some ((gI S4 40 0), S4)
set_option maxRecDepth 20000 in
theorem c_X7_type {l : Launch} {D : va_G} {ad : Nat → Nat} {cI cJ cZ : ClassId} {n : Nat} (hD : ∀ sz S, va_D (Adr ad n sz) (wM ad cI cJ cZ S)) {x1 : Int32} {S : St} {z : Int32 × St} (hf : m_X7_type x1 S = some z) : CtI l yX7_type cX7_type 2 (some .int) ({ frames := 1, cells := 0, slots := 0, locals := 22 } : Room) D (wM ad cI cJ cZ) (tyX cI cJ cZ) ad n [.ref (ad 0), .int x1] S z := by
  refine CtI.of hf (by decide +kernel) (Nat.le_of_ble_eq_true rfl) hD (fun p e s m args below meth c C hr => ?_)
  refine g_sub [0, 1] (lv2 := [(0, .ref (ad 0)), (1, .int x1)]) rfl ?_
  unfold m_X7_type
  refine g_iload_n (pc := 0) C dX7_type_0 (i := 1) rfl 1 rfl ?_
  refine g_iconst (pc := 1) (v := 0) C dX7_type_1 (by decide) ?_
  refine g_sipush (pc := 2) (v := 255) C dX7_type_2 (by decide) ?_
  refine g_callSi (pc := 5) (As := [.int _, .int _, .int _]) C q960 mw_X7_in (fun _ hz => c_X7_in C.2.2.2.2.2.2.2.1 hz) ⟨Nat.le_of_ble_eq_true rfl, Nat.le_of_ble_eq_true rfl⟩ rfl rfl rfl (Nat.le_of_ble_eq_true rfl) dX7_type_5 fun r2 S1 => ?_
  refine g_if_ne (pc := 8) (tgt := 14) C dX7_type_8 (by decide) ?_ ?_
  · refine g_aload_n (pc := 14) C dX7_type_14 (i := 0) rfl 0 rfl ?_
    refine gt_X7_typed (pc := 15) C q874 dX7_type_15 ?_
    refine g_bipush (pc := 18) (v := 20) C dX7_type_18 (by decide) ?_
    refine g_icmp_ne (pc := 20) (tgt := 26) C dX7_type_20 (by decide) ?_ ?_
    · refine g_aload_n (pc := 26) C dX7_type_26 (i := 0) rfl 0 rfl ?_
      refine gt_X7_text (pc := 27) C q873 dX7_type_27 ?_
      refine g_aload_n (pc := 30) C dX7_type_30 (i := 0) rfl 0 rfl ?_
      refine gt_X7_typed (pc := 31) C q874 dX7_type_31 ?_
      refine g_iload_n (pc := 34) C dX7_type_34 (i := 1) rfl 1 rfl ?_
      refine as_X7_text (pc := 35) C dX7_type_35 fun S3 => ?_
      refine g_aload_n (pc := 36) C dX7_type_36 (i := 0) rfl 0 rfl ?_
      refine g_dup (pc := 37) C dX7_type_37 rfl ?_
      refine gt_X7_typed (pc := 38) C q874 dX7_type_38 ?_
      refine g_iconst (pc := 41) (v := 1) C dX7_type_41 (by decide) ?_
      refine g_iadd (pc := 42) C dX7_type_42 ?_
      refine pt_X7_typed (pc := 43) C q874 dX7_type_43 fun S4 => ?_
      refine g_aload_n (pc := 46) C dX7_type_46 (i := 0) rfl 0 rfl ?_
      refine gt_X7_typed (pc := 47) C q874 dX7_type_47 ?_
      exact g_iret (pc := 50) C hr dX7_type_50
    · refine g_bipush (pc := 23) (v := -4) C dX7_type_23 (by decide) ?_
      exact g_iret (pc := 25) C hr dX7_type_25
  · refine g_bipush (pc := 11) (v := -2) C dX7_type_11 (by decide) ?_
    exact g_iret (pc := 13) C hr dX7_type_13
noncomputable def m_X7_wipe (S : St) : Option (Int32 × St) :=
nm ((gI S 40 0)) fun y1 =>
nm (sI S 40 0 (0 : Int32)) fun S2 =>
some (y1, S2)
set_option maxRecDepth 20000 in
theorem c_X7_wipe {l : Launch} {D : va_G} {ad : Nat → Nat} {cI cJ cZ : ClassId} {n : Nat} (hD : ∀ sz S, va_D (Adr ad n sz) (wM ad cI cJ cZ S)) {S : St} {z : Int32 × St} (hf : m_X7_wipe S = some z) : CtI l yX7_wipe cX7_wipe 2 (some .int) ({ frames := 0, cells := 0, slots := 0, locals := 0 } : Room) D (wM ad cI cJ cZ) (tyX cI cJ cZ) ad n [.ref (ad 0)] S z := by
  refine CtI.of hf (by decide +kernel) (Nat.le_of_ble_eq_true rfl) hD (fun p e s m args below meth c C hr => ?_)
  refine g_sub [0] (lv2 := [(0, .ref (ad 0))]) rfl ?_
  unfold m_X7_wipe
  refine g_aload_n (pc := 0) C dX7_wipe_0 (i := 0) rfl 0 rfl ?_
  refine gt_X7_typed (pc := 1) C q874 dX7_wipe_1 ?_
  refine g_nmi fun y1 => ?_
  refine g_istore_n (pc := 4) (i := 1) (lv2 := [(1, .int y1), (0, .ref (ad 0))]) C dX7_wipe_4 rfl (by decide) rfl ?_
  refine g_aload_n (pc := 5) C dX7_wipe_5 (i := 0) rfl 1 rfl ?_
  refine g_iconst (pc := 6) (v := 0) C dX7_wipe_6 (by decide) ?_
  refine pt_X7_typed (pc := 7) C q874 dX7_wipe_7 fun S2 => ?_
  refine g_iload_n (pc := 10) C dX7_wipe_10 (i := 1) rfl 0 rfl ?_
  exact g_iret (pc := 11) C hr dX7_wipe_11
noncomputable def m_X7_figureAt (x1 : Int32) (S : St) : Option (Int32 × St) :=
if x1 < (gI S 40 0) then (
chk x1 20 <|
nm (((gI S 1 (ix x1)) - (48 : Int32))) fun y3 =>
bnd (m_X7_in y3 (0 : Int32) (9 : Int32) S) fun r5 S4 =>
if r5 = 0 then (
some ((-1 : Int32), S4))
else
some (y3, S4))
else
bnd (m_X7_in (-1 : Int32) (0 : Int32) (9 : Int32) S) fun r2 S1 =>
if r2 = 0 then (
some ((-1 : Int32), S1))
else
some ((-1 : Int32), S1)
set_option maxRecDepth 20000 in
theorem c_X7_figureAt {l : Launch} {D : va_G} {ad : Nat → Nat} {cI cJ cZ : ClassId} {n : Nat} (hD : ∀ sz S, va_D (Adr ad n sz) (wM ad cI cJ cZ S)) {x1 : Int32} {S : St} {z : Int32 × St} (hf : m_X7_figureAt x1 S = some z) : CtI l yX7_figureAt cX7_figureAt 3 (some .int) ({ frames := 1, cells := 0, slots := 0, locals := 22 } : Room) D (wM ad cI cJ cZ) (tyX cI cJ cZ) ad n [.ref (ad 0), .int x1] S z := by
  refine CtI.of hf (by decide +kernel) (Nat.le_of_ble_eq_true rfl) hD (fun p e s m args below meth c C hr => ?_)
  refine g_sub [0, 1] (lv2 := [(0, .ref (ad 0)), (1, .int x1)]) rfl ?_
  unfold m_X7_figureAt
  refine g_iload_n (pc := 0) C dX7_figureAt_0 (i := 1) rfl 1 rfl ?_
  refine g_aload_n (pc := 1) C dX7_figureAt_1 (i := 0) rfl 0 rfl ?_
  refine gt_X7_typed (pc := 2) C q874 dX7_figureAt_2 ?_
  refine g_icmp_ge (pc := 5) (tgt := 20) C dX7_figureAt_5 (by decide) ?_ ?_
  · refine g_iconst (pc := 20) (v := -1) C dX7_figureAt_20 (by decide) ?_
    refine g_istore_n (pc := 21) (i := 2) (lv2 := [(2, .int (-1 : Int32)), (0, .ref (ad 0)), (1, .int x1)]) C dX7_figureAt_21 rfl (by decide) rfl ?_
    refine g_iload_n (pc := 22) C dX7_figureAt_22 (i := 2) rfl 0 rfl ?_
    refine g_iconst (pc := 23) (v := 0) C dX7_figureAt_23 (by decide) ?_
    refine g_bipush (pc := 24) (v := 9) C dX7_figureAt_24 (by decide) ?_
    refine g_callSi (pc := 26) (As := [.int _, .int _, .int _]) C q960 mw_X7_in (fun _ hz => c_X7_in C.2.2.2.2.2.2.2.1 hz) ⟨Nat.le_of_ble_eq_true rfl, Nat.le_of_ble_eq_true rfl⟩ rfl rfl rfl (Nat.le_of_ble_eq_true rfl) dX7_figureAt_26 fun r2 S1 => ?_
    refine g_if_eq (pc := 29) (tgt := 36) C dX7_figureAt_29 (by decide) ?_ ?_
    · refine g_iconst (pc := 36) (v := -1) C dX7_figureAt_36 (by decide) ?_
      exact g_iret (pc := 37) C hr dX7_figureAt_37
    · refine g_iload_n (pc := 32) C dX7_figureAt_32 (i := 2) rfl 0 rfl ?_
      refine g_goto (pc := 33) (tgt := 37) C dX7_figureAt_33 (by decide) ?_
      exact g_iret (pc := 37) C hr dX7_figureAt_37
  · refine g_aload_n (pc := 8) C dX7_figureAt_8 (i := 0) rfl 0 rfl ?_
    refine gt_X7_text (pc := 9) C q873 dX7_figureAt_9 ?_
    refine g_iload_n (pc := 12) C dX7_figureAt_12 (i := 1) rfl 1 rfl ?_
    refine al_X7_text (pc := 13) C dX7_figureAt_13 ?_
    refine g_bipush (pc := 14) (v := 48) C dX7_figureAt_14 (by decide) ?_
    refine g_isub (pc := 16) C dX7_figureAt_16 ?_
    refine g_goto (pc := 17) (tgt := 21) C dX7_figureAt_17 (by decide) ?_
    refine g_nmi fun y3 => ?_
    refine g_istore_n (pc := 21) (i := 2) (lv2 := [(2, .int y3), (0, .ref (ad 0)), (1, .int x1)]) C dX7_figureAt_21 rfl (by decide) rfl ?_
    refine g_iload_n (pc := 22) C dX7_figureAt_22 (i := 2) rfl 0 rfl ?_
    refine g_iconst (pc := 23) (v := 0) C dX7_figureAt_23 (by decide) ?_
    refine g_bipush (pc := 24) (v := 9) C dX7_figureAt_24 (by decide) ?_
    refine g_callSi (pc := 26) (As := [.int _, .int _, .int _]) C q960 mw_X7_in (fun _ hz => c_X7_in C.2.2.2.2.2.2.2.1 hz) ⟨Nat.le_of_ble_eq_true rfl, Nat.le_of_ble_eq_true rfl⟩ rfl rfl rfl (Nat.le_of_ble_eq_true rfl) dX7_figureAt_26 fun r5 S4 => ?_
    refine g_if_eq (pc := 29) (tgt := 36) C dX7_figureAt_29 (by decide) ?_ ?_
    · refine g_iconst (pc := 36) (v := -1) C dX7_figureAt_36 (by decide) ?_
      exact g_iret (pc := 37) C hr dX7_figureAt_37
    · refine g_iload_n (pc := 32) C dX7_figureAt_32 (i := 2) rfl 0 rfl ?_
      refine g_goto (pc := 33) (tgt := 37) C dX7_figureAt_33 (by decide) ?_
      exact g_iret (pc := 37) C hr dX7_figureAt_37
noncomputable def b_X7_faultNow_50 (x3 : Int32) (x4 : Int32) (k : Int32 → Int32 → Int32 → St → Option (Int32 × St)) (rec : Int32 → Int32 → Int32 → St → Option (Int32 × St)) (x1 : Int32) (x2 : Int32) (x5 : Int32) (S : St) : Option (Int32 × St) :=
bnd (m_X7_figureAt x1 S) fun r5 S4 =>
if r5 = (-1 : Int32) then (
k x1 x2 x5 S4)
else
if x4 = 0 then (
if x5 < (4 : Int32) then (
bnd (m_X7_figureAt x1 S4) fun r10 S9 =>
chk x2 16 <|
nm (sI S9 2 (ix x2) r10) fun S11 =>
rec (x1 + 1) (x2 + 1) (x5 + 1) S11)
else
k x1 x2 x5 S4)
else
if x5 < x3 then (
bnd (m_X7_figureAt x1 S4) fun r7 S6 =>
chk x2 16 <|
nm (sI S6 2 (ix x2) r7) fun S8 =>
rec (x1 + 1) (x2 + 1) (x5 + 1) S8)
else
k x1 x2 x5 S4
noncomputable def b_X7_faultNow_33 (k : St → Option (Int32 × St)) (rec : Int32 → Int32 → Int32 → Int32 → St → Option (Int32 × St)) (x1 : Int32) (x2 : Int32) (x3 : Int32) (x4 : Int32) (S : St) : Option (Int32 × St) :=
if x4 < (4 : Int32) then (
if x4 = (3 : Int32) then (
some (x1, S))
else
it3 (b_X7_faultNow_50 x3 x4 (fun x1_S12 x2_S12 x5_S12 S12 =>
if x4 = 0 then (
if x5_S12 = 0 then (
some (x1_S12, S12))
else
if x5_S12 < x5_S12 then (
some (x1_S12, S12))
else
if x1_S12 = (gI S12 40 0) then (
nm (sI S12 41 0 x2_S12) fun S16 =>
nm (sI S16 42 0 x5_S12) fun S17 =>
nm (sI S17 43 0 (x4 + (1 : Int32))) fun S18 =>
some ((-1 : Int32), S18))
else
chk x1_S12 20 <|
if (gI S12 1 (ix x1_S12)) = (59 : Int32) then (
rec (x1_S12 + 1) x2_S12 x5_S12 (x4 + 1) S12)
else
some (x1_S12, S12))
else
if x5_S12 = 0 then (
some (x1_S12, S12))
else
if x5_S12 < x3 then (
some (x1_S12, S12))
else
if x1_S12 = (gI S12 40 0) then (
nm (sI S12 41 0 x2_S12) fun S13 =>
nm (sI S13 42 0 x3) fun S14 =>
nm (sI S14 43 0 (x4 + (1 : Int32))) fun S15 =>
some ((-1 : Int32), S15))
else
chk x1_S12 20 <|
if (gI S12 1 (ix x1_S12)) = (59 : Int32) then (
rec (x1_S12 + 1) x2_S12 x3 (x4 + 1) S12)
else
some (x1_S12, S12))) 5000 x1 x2 (0 : Int32) S)
else
k S
noncomputable def m_X7_faultNow (S : St) : Option (Int32 × St) :=
nm (sI S 41 0 (0 : Int32)) fun S1 =>
nm (sI S1 42 0 (0 : Int32)) fun S2 =>
nm (sI S2 43 0 (0 : Int32)) fun S3 =>
if (gI S3 40 0) = 0 then (
some ((-1 : Int32), S3))
else
it4 (b_X7_faultNow_33 (fun S19 =>
some ((-1 : Int32), S19))) 5000 (0 : Int32) (0 : Int32) (0 : Int32) (0 : Int32) S3
set_option maxRecDepth 20000 in
theorem u_X7_faultNow_50 (C : Cx p s m args meth c cX7_faultNow 6 RX7 D (tyX cI cJ cZ) ad n (wM ad cI cJ cZ)) (hr : meth.sig.returnType = (some .int)) (x3 : Int32) (x4 : Int32) (k : Int32 → Int32 → Int32 → St → Option (Int32 × St)) (hk : ∀ (x1 : Int32) (x2 : Int32) (x5 : Int32) (S : St), GM p l e ({ frames := 2, cells := 0, slots := 0, locals := 44 } : Room) s m args below meth c D ad n (wM ad cI cJ cZ) 6 (QI D (wM ad cI cJ cZ) ad n args s below) (k x1 x2 x5 S) S 97 [(0, .ref (ad 0)), (1, .int x1), (2, .int x2), (3, .int x3), (4, .int x4), (5, .int x5)] []) (rec : Int32 → Int32 → Int32 → St → Option (Int32 × St)) (hrec : ∀ (x1 : Int32) (x2 : Int32) (x5 : Int32) (S : St), GM p l e ({ frames := 2, cells := 0, slots := 0, locals := 44 } : Room) s m args below meth c D ad n (wM ad cI cJ cZ) 6 (QI D (wM ad cI cJ cZ) ad n args s below) (rec x1 x2 x5 S) S 50 [(0, .ref (ad 0)), (1, .int x1), (2, .int x2), (3, .int x3), (4, .int x4), (5, .int x5)] []) (x1 : Int32) (x2 : Int32) (x5 : Int32) (S : St) : GM p l e ({ frames := 2, cells := 0, slots := 0, locals := 44 } : Room) s m args below meth c D ad n (wM ad cI cJ cZ) 6 (QI D (wM ad cI cJ cZ) ad n args s below) (b_X7_faultNow_50 x3 x4 k rec x1 x2 x5 S) S 50 [(0, .ref (ad 0)), (1, .int x1), (2, .int x2), (3, .int x3), (4, .int x4), (5, .int x5)] [] := by
  unfold b_X7_faultNow_50
  refine g_aload_n (pc := 50) C dX7_faultNow_50 (i := 0) rfl 0 rfl ?_
  refine g_iload_n (pc := 51) C dX7_faultNow_51 (i := 1) rfl 1 rfl ?_
  refine g_callVi (pc := 52) (As := [.int _]) C q975 mw_X7_figureAt (fun _ hz => c_X7_figureAt C.2.2.2.2.2.2.2.1 hz) ⟨Nat.le_of_ble_eq_true rfl, Nat.le_of_ble_eq_true rfl⟩ rfl rfl 0 rfl rfl rfl (Nat.le_of_ble_eq_true rfl) dX7_faultNow_52 fun r5 S4 => ?_
  refine g_iconst (pc := 55) (v := -1) C dX7_faultNow_55 (by decide) ?_
  refine g_icmp_eq (pc := 56) (tgt := 97) C dX7_faultNow_56 (by decide) ?_ ?_
  · refine g_sub [0, 1, 2, 3, 4, 5] rfl (hk _ _ _ _)
  · refine g_iload (pc := 59) C dX7_faultNow_59 5 rfl ?_
    refine g_iload (pc := 61) C dX7_faultNow_61 4 rfl ?_
    refine g_if_ne (pc := 63) (tgt := 70) C dX7_faultNow_63 (by decide) ?_ ?_
    · refine g_iload_n (pc := 70) C dX7_faultNow_70 (i := 3) rfl 3 rfl ?_
      refine g_icmp_ge (pc := 71) (tgt := 97) C dX7_faultNow_71 (by decide) ?_ ?_
      · refine g_sub [0, 1, 2, 3, 4, 5] rfl (hk _ _ _ _)
      · refine g_aload_n (pc := 74) C dX7_faultNow_74 (i := 0) rfl 0 rfl ?_
        refine gt_X7_heights (pc := 75) C q878 dX7_faultNow_75 ?_
        refine g_iload_n (pc := 78) C dX7_faultNow_78 (i := 2) rfl 2 rfl ?_
        refine g_aload_n (pc := 79) C dX7_faultNow_79 (i := 0) rfl 0 rfl ?_
        refine g_iload_n (pc := 80) C dX7_faultNow_80 (i := 1) rfl 1 rfl ?_
        refine g_callVi (pc := 81) (As := [.int _]) C q975 mw_X7_figureAt (fun _ hz => c_X7_figureAt C.2.2.2.2.2.2.2.1 hz) ⟨Nat.le_of_ble_eq_true rfl, Nat.le_of_ble_eq_true rfl⟩ rfl rfl 0 rfl rfl rfl (Nat.le_of_ble_eq_true rfl) dX7_faultNow_81 fun r7 S6 => ?_
        refine as_X7_heights (pc := 84) C dX7_faultNow_84 fun S8 => ?_
        refine g_iinc (pc := 85) (v := (x2 + 1)) (lv2 := [(2, .int (x2 + 1)), (0, .ref (ad 0)), (1, .int x1), (3, .int x3), (4, .int x4), (5, .int x5)]) C dX7_faultNow_85 2 rfl rfl (by decide) rfl ?_
        refine g_iinc (pc := 88) (v := (x5 + 1)) (lv2 := [(5, .int (x5 + 1)), (2, .int (x2 + 1)), (0, .ref (ad 0)), (1, .int x1), (3, .int x3), (4, .int x4)]) C dX7_faultNow_88 5 rfl rfl (by decide) rfl ?_
        refine g_iinc (pc := 91) (v := (x1 + 1)) (lv2 := [(1, .int (x1 + 1)), (5, .int (x5 + 1)), (2, .int (x2 + 1)), (0, .ref (ad 0)), (3, .int x3), (4, .int x4)]) C dX7_faultNow_91 3 rfl rfl (by decide) rfl ?_
        refine g_goto (pc := 94) (tgt := 50) C dX7_faultNow_94 (by decide) ?_
        refine g_sub [3, 0, 2, 4, 5, 1] rfl (hrec _ _ _ _)
    · refine g_iconst (pc := 66) (v := 4) C dX7_faultNow_66 (by decide) ?_
      refine g_goto (pc := 67) (tgt := 71) C dX7_faultNow_67 (by decide) ?_
      refine g_icmp_ge (pc := 71) (tgt := 97) C dX7_faultNow_71 (by decide) ?_ ?_
      · refine g_sub [0, 1, 2, 3, 4, 5] rfl (hk _ _ _ _)
      · refine g_aload_n (pc := 74) C dX7_faultNow_74 (i := 0) rfl 0 rfl ?_
        refine gt_X7_heights (pc := 75) C q878 dX7_faultNow_75 ?_
        refine g_iload_n (pc := 78) C dX7_faultNow_78 (i := 2) rfl 2 rfl ?_
        refine g_aload_n (pc := 79) C dX7_faultNow_79 (i := 0) rfl 0 rfl ?_
        refine g_iload_n (pc := 80) C dX7_faultNow_80 (i := 1) rfl 1 rfl ?_
        refine g_callVi (pc := 81) (As := [.int _]) C q975 mw_X7_figureAt (fun _ hz => c_X7_figureAt C.2.2.2.2.2.2.2.1 hz) ⟨Nat.le_of_ble_eq_true rfl, Nat.le_of_ble_eq_true rfl⟩ rfl rfl 0 rfl rfl rfl (Nat.le_of_ble_eq_true rfl) dX7_faultNow_81 fun r10 S9 => ?_
        refine as_X7_heights (pc := 84) C dX7_faultNow_84 fun S11 => ?_
        refine g_iinc (pc := 85) (v := (x2 + 1)) (lv2 := [(2, .int (x2 + 1)), (0, .ref (ad 0)), (1, .int x1), (3, .int x3), (4, .int x4), (5, .int x5)]) C dX7_faultNow_85 2 rfl rfl (by decide) rfl ?_
        refine g_iinc (pc := 88) (v := (x5 + 1)) (lv2 := [(5, .int (x5 + 1)), (2, .int (x2 + 1)), (0, .ref (ad 0)), (1, .int x1), (3, .int x3), (4, .int x4)]) C dX7_faultNow_88 5 rfl rfl (by decide) rfl ?_
        refine g_iinc (pc := 91) (v := (x1 + 1)) (lv2 := [(1, .int (x1 + 1)), (5, .int (x5 + 1)), (2, .int (x2 + 1)), (0, .ref (ad 0)), (3, .int x3), (4, .int x4)]) C dX7_faultNow_91 3 rfl rfl (by decide) rfl ?_
        refine g_goto (pc := 94) (tgt := 50) C dX7_faultNow_94 (by decide) ?_
        refine g_sub [3, 0, 2, 4, 5, 1] rfl (hrec _ _ _ _)
set_option maxRecDepth 20000 in
theorem u_X7_faultNow_33 (C : Cx p s m args meth c cX7_faultNow 6 RX7 D (tyX cI cJ cZ) ad n (wM ad cI cJ cZ)) (hr : meth.sig.returnType = (some .int)) (k : St → Option (Int32 × St)) (hk : ∀ (S : St), GM p l e ({ frames := 2, cells := 0, slots := 0, locals := 44 } : Room) s m args below meth c D ad n (wM ad cI cJ cZ) 6 (QI D (wM ad cI cJ cZ) ad n args s below) (k S) S 172 [] []) (rec : Int32 → Int32 → Int32 → Int32 → St → Option (Int32 × St)) (hrec : ∀ (x1 : Int32) (x2 : Int32) (x3 : Int32) (x4 : Int32) (S : St), GM p l e ({ frames := 2, cells := 0, slots := 0, locals := 44 } : Room) s m args below meth c D ad n (wM ad cI cJ cZ) 6 (QI D (wM ad cI cJ cZ) ad n args s below) (rec x1 x2 x3 x4 S) S 33 [(0, .ref (ad 0)), (1, .int x1), (2, .int x2), (3, .int x3), (4, .int x4)] []) (x1 : Int32) (x2 : Int32) (x3 : Int32) (x4 : Int32) (S : St) : GM p l e ({ frames := 2, cells := 0, slots := 0, locals := 44 } : Room) s m args below meth c D ad n (wM ad cI cJ cZ) 6 (QI D (wM ad cI cJ cZ) ad n args s below) (b_X7_faultNow_33 k rec x1 x2 x3 x4 S) S 33 [(0, .ref (ad 0)), (1, .int x1), (2, .int x2), (3, .int x3), (4, .int x4)] [] := by
  unfold b_X7_faultNow_33
  refine g_iload (pc := 33) C dX7_faultNow_33 4 rfl ?_
  refine g_iconst (pc := 35) (v := 4) C dX7_faultNow_35 (by decide) ?_
  refine g_icmp_ge (pc := 36) (tgt := 172) C dX7_faultNow_36 (by decide) ?_ ?_
  · refine g_sub [] rfl (hk _)
  · refine g_iload (pc := 39) C dX7_faultNow_39 4 rfl ?_
    refine g_iconst (pc := 41) (v := 3) C dX7_faultNow_41 (by decide) ?_
    refine g_icmp_ne (pc := 42) (tgt := 47) C dX7_faultNow_42 (by decide) ?_ ?_
    · refine g_iconst (pc := 47) (v := 0) C dX7_faultNow_47 (by decide) ?_
      refine g_istore (pc := 48) (i := 5) (j := 0) (lv2 := [(5, .int (0 : Int32)), (0, .ref (ad 0)), (1, .int x1), (2, .int x2), (3, .int x3), (4, .int x4)]) C dX7_faultNow_48 (by decide) rfl ?_
      refine g_sub [1, 2, 3, 4, 5, 0] (lv2 := [(0, .ref (ad 0)), (1, .int x1), (2, .int x2), (3, .int x3), (4, .int x4), (5, .int (0 : Int32))]) rfl ?_
      refine g_it3 (pc := 50) (u_X7_faultNow_50 C hr _ _ _ fun x1_S12 x2_S12 x5_S12 S12 => ?_) _ _ _ _ _
      refine g_iload (pc := 97) C dX7_faultNow_97 4 rfl ?_
      refine g_if_ne (pc := 99) (tgt := 107) C dX7_faultNow_99 (by decide) ?_ ?_
      · refine g_iload_n (pc := 107) C dX7_faultNow_107 (i := 3) rfl 3 rfl ?_
        refine g_istore_n (pc := 108) (i := 3) (lv2 := [(3, .int x3), (0, .ref (ad 0)), (1, .int x1_S12), (2, .int x2_S12), (4, .int x4), (5, .int x5_S12)]) C dX7_faultNow_108 rfl (by decide) rfl ?_
        refine g_iload (pc := 109) C dX7_faultNow_109 5 rfl ?_
        refine g_if_eq (pc := 111) (tgt := 120) C dX7_faultNow_111 (by decide) ?_ ?_
        · refine g_iload_n (pc := 120) C dX7_faultNow_120 (i := 1) rfl 2 rfl ?_
          exact g_iret (pc := 121) C hr dX7_faultNow_121
        · refine g_iload (pc := 114) C dX7_faultNow_114 5 rfl ?_
          refine g_iload_n (pc := 116) C dX7_faultNow_116 (i := 3) rfl 0 rfl ?_
          refine g_icmp_ge (pc := 117) (tgt := 122) C dX7_faultNow_117 (by decide) ?_ ?_
          · refine g_iload_n (pc := 122) C dX7_faultNow_122 (i := 1) rfl 2 rfl ?_
            refine g_aload_n (pc := 123) C dX7_faultNow_123 (i := 0) rfl 1 rfl ?_
            refine gt_X7_typed (pc := 124) C q874 dX7_faultNow_124 ?_
            refine g_icmp_ne (pc := 127) (tgt := 150) C dX7_faultNow_127 (by decide) ?_ ?_
            · refine g_aload_n (pc := 150) C dX7_faultNow_150 (i := 0) rfl 1 rfl ?_
              refine gt_X7_text (pc := 151) C q873 dX7_faultNow_151 ?_
              refine g_iload_n (pc := 154) C dX7_faultNow_154 (i := 1) rfl 2 rfl ?_
              refine al_X7_text (pc := 155) C dX7_faultNow_155 ?_
              refine g_bipush (pc := 156) (v := 59) C dX7_faultNow_156 (by decide) ?_
              refine g_icmp_eq (pc := 158) (tgt := 163) C dX7_faultNow_158 (by decide) ?_ ?_
              · refine g_iinc (pc := 163) (v := (x1_S12 + 1)) (lv2 := [(1, .int (x1_S12 + 1)), (3, .int x3), (0, .ref (ad 0)), (2, .int x2_S12), (4, .int x4), (5, .int x5_S12)]) C dX7_faultNow_163 2 rfl rfl (by decide) rfl ?_
                refine g_iinc (pc := 166) (v := (x4 + 1)) (lv2 := [(4, .int (x4 + 1)), (1, .int (x1_S12 + 1)), (3, .int x3), (0, .ref (ad 0)), (2, .int x2_S12), (5, .int x5_S12)]) C dX7_faultNow_166 4 rfl rfl (by decide) rfl ?_
                refine g_goto (pc := 169) (tgt := 33) C dX7_faultNow_169 (by decide) ?_
                refine g_sub [3, 1, 4, 2, 0] rfl (hrec _ _ _ _ _)
              · refine g_iload_n (pc := 161) C dX7_faultNow_161 (i := 1) rfl 2 rfl ?_
                exact g_iret (pc := 162) C hr dX7_faultNow_162
            · refine g_aload_n (pc := 130) C dX7_faultNow_130 (i := 0) rfl 1 rfl ?_
              refine g_iload_n (pc := 131) C dX7_faultNow_131 (i := 2) rfl 3 rfl ?_
              refine pt_X7_cells (pc := 132) C q875 dX7_faultNow_132 fun S13 => ?_
              refine g_aload_n (pc := 135) C dX7_faultNow_135 (i := 0) rfl 1 rfl ?_
              refine g_iload_n (pc := 136) C dX7_faultNow_136 (i := 3) rfl 0 rfl ?_
              refine pt_X7_wide (pc := 137) C q876 dX7_faultNow_137 fun S14 => ?_
              refine g_aload_n (pc := 140) C dX7_faultNow_140 (i := 0) rfl 1 rfl ?_
              refine g_iload (pc := 141) C dX7_faultNow_141 4 rfl ?_
              refine g_iconst (pc := 143) (v := 1) C dX7_faultNow_143 (by decide) ?_
              refine g_iadd (pc := 144) C dX7_faultNow_144 ?_
              refine pt_X7_rowsMany (pc := 145) C q877 dX7_faultNow_145 fun S15 => ?_
              refine g_iconst (pc := 148) (v := -1) C dX7_faultNow_148 (by decide) ?_
              exact g_iret (pc := 149) C hr dX7_faultNow_149
          · refine g_iload_n (pc := 120) C dX7_faultNow_120 (i := 1) rfl 2 rfl ?_
            exact g_iret (pc := 121) C hr dX7_faultNow_121
      · refine g_iload (pc := 102) C dX7_faultNow_102 5 rfl ?_
        refine g_goto (pc := 104) (tgt := 108) C dX7_faultNow_104 (by decide) ?_
        refine g_istore_n (pc := 108) (i := 3) (lv2 := [(3, .int x5_S12), (0, .ref (ad 0)), (1, .int x1_S12), (2, .int x2_S12), (4, .int x4), (5, .int x5_S12)]) C dX7_faultNow_108 rfl (by decide) rfl ?_
        refine g_iload (pc := 109) C dX7_faultNow_109 5 rfl ?_
        refine g_if_eq (pc := 111) (tgt := 120) C dX7_faultNow_111 (by decide) ?_ ?_
        · refine g_iload_n (pc := 120) C dX7_faultNow_120 (i := 1) rfl 2 rfl ?_
          exact g_iret (pc := 121) C hr dX7_faultNow_121
        · refine g_iload (pc := 114) C dX7_faultNow_114 5 rfl ?_
          refine g_iload_n (pc := 116) C dX7_faultNow_116 (i := 3) rfl 0 rfl ?_
          refine g_icmp_ge (pc := 117) (tgt := 122) C dX7_faultNow_117 (by decide) ?_ ?_
          · refine g_iload_n (pc := 122) C dX7_faultNow_122 (i := 1) rfl 2 rfl ?_
            refine g_aload_n (pc := 123) C dX7_faultNow_123 (i := 0) rfl 1 rfl ?_
            refine gt_X7_typed (pc := 124) C q874 dX7_faultNow_124 ?_
            refine g_icmp_ne (pc := 127) (tgt := 150) C dX7_faultNow_127 (by decide) ?_ ?_
            · refine g_aload_n (pc := 150) C dX7_faultNow_150 (i := 0) rfl 1 rfl ?_
              refine gt_X7_text (pc := 151) C q873 dX7_faultNow_151 ?_
              refine g_iload_n (pc := 154) C dX7_faultNow_154 (i := 1) rfl 2 rfl ?_
              refine al_X7_text (pc := 155) C dX7_faultNow_155 ?_
              refine g_bipush (pc := 156) (v := 59) C dX7_faultNow_156 (by decide) ?_
              refine g_icmp_eq (pc := 158) (tgt := 163) C dX7_faultNow_158 (by decide) ?_ ?_
              · refine g_iinc (pc := 163) (v := (x1_S12 + 1)) (lv2 := [(1, .int (x1_S12 + 1)), (3, .int x5_S12), (0, .ref (ad 0)), (2, .int x2_S12), (4, .int x4), (5, .int x5_S12)]) C dX7_faultNow_163 2 rfl rfl (by decide) rfl ?_
                refine g_iinc (pc := 166) (v := (x4 + 1)) (lv2 := [(4, .int (x4 + 1)), (1, .int (x1_S12 + 1)), (3, .int x5_S12), (0, .ref (ad 0)), (2, .int x2_S12), (5, .int x5_S12)]) C dX7_faultNow_166 4 rfl rfl (by decide) rfl ?_
                refine g_goto (pc := 169) (tgt := 33) C dX7_faultNow_169 (by decide) ?_
                refine g_sub [3, 1, 4, 2, 0] rfl (hrec _ _ _ _ _)
              · refine g_iload_n (pc := 161) C dX7_faultNow_161 (i := 1) rfl 2 rfl ?_
                exact g_iret (pc := 162) C hr dX7_faultNow_162
            · refine g_aload_n (pc := 130) C dX7_faultNow_130 (i := 0) rfl 1 rfl ?_
              refine g_iload_n (pc := 131) C dX7_faultNow_131 (i := 2) rfl 3 rfl ?_
              refine pt_X7_cells (pc := 132) C q875 dX7_faultNow_132 fun S16 => ?_
              refine g_aload_n (pc := 135) C dX7_faultNow_135 (i := 0) rfl 1 rfl ?_
              refine g_iload_n (pc := 136) C dX7_faultNow_136 (i := 3) rfl 0 rfl ?_
              refine pt_X7_wide (pc := 137) C q876 dX7_faultNow_137 fun S17 => ?_
              refine g_aload_n (pc := 140) C dX7_faultNow_140 (i := 0) rfl 1 rfl ?_
              refine g_iload (pc := 141) C dX7_faultNow_141 4 rfl ?_
              refine g_iconst (pc := 143) (v := 1) C dX7_faultNow_143 (by decide) ?_
              refine g_iadd (pc := 144) C dX7_faultNow_144 ?_
              refine pt_X7_rowsMany (pc := 145) C q877 dX7_faultNow_145 fun S18 => ?_
              refine g_iconst (pc := 148) (v := -1) C dX7_faultNow_148 (by decide) ?_
              exact g_iret (pc := 149) C hr dX7_faultNow_149
          · refine g_iload_n (pc := 120) C dX7_faultNow_120 (i := 1) rfl 2 rfl ?_
            exact g_iret (pc := 121) C hr dX7_faultNow_121
    · refine g_iload_n (pc := 45) C dX7_faultNow_45 (i := 1) rfl 1 rfl ?_
      exact g_iret (pc := 46) C hr dX7_faultNow_46
set_option maxRecDepth 20000 in
theorem c_X7_faultNow {l : Launch} {D : va_G} {ad : Nat → Nat} {cI cJ cZ : ClassId} {n : Nat} (hD : ∀ sz S, va_D (Adr ad n sz) (wM ad cI cJ cZ S)) {S : St} {z : Int32 × St} (hf : m_X7_faultNow S = some z) : CtI l yX7_faultNow cX7_faultNow 6 (some .int) ({ frames := 2, cells := 0, slots := 0, locals := 44 } : Room) D (wM ad cI cJ cZ) (tyX cI cJ cZ) ad n [.ref (ad 0)] S z := by
  refine CtI.of hf (by decide +kernel) (Nat.le_of_ble_eq_true rfl) hD (fun p e s m args below meth c C hr => ?_)
  refine g_sub [0] (lv2 := [(0, .ref (ad 0))]) rfl ?_
  unfold m_X7_faultNow
  refine g_aload_n (pc := 0) C dX7_faultNow_0 (i := 0) rfl 0 rfl ?_
  refine g_iconst (pc := 1) (v := 0) C dX7_faultNow_1 (by decide) ?_
  refine pt_X7_cells (pc := 2) C q875 dX7_faultNow_2 fun S1 => ?_
  refine g_aload_n (pc := 5) C dX7_faultNow_5 (i := 0) rfl 0 rfl ?_
  refine g_iconst (pc := 6) (v := 0) C dX7_faultNow_6 (by decide) ?_
  refine pt_X7_wide (pc := 7) C q876 dX7_faultNow_7 fun S2 => ?_
  refine g_aload_n (pc := 10) C dX7_faultNow_10 (i := 0) rfl 0 rfl ?_
  refine g_iconst (pc := 11) (v := 0) C dX7_faultNow_11 (by decide) ?_
  refine pt_X7_rowsMany (pc := 12) C q877 dX7_faultNow_12 fun S3 => ?_
  refine g_aload_n (pc := 15) C dX7_faultNow_15 (i := 0) rfl 0 rfl ?_
  refine gt_X7_typed (pc := 16) C q874 dX7_faultNow_16 ?_
  refine g_if_ne (pc := 19) (tgt := 24) C dX7_faultNow_19 (by decide) ?_ ?_
  · refine g_iconst (pc := 24) (v := 0) C dX7_faultNow_24 (by decide) ?_
    refine g_istore_n (pc := 25) (i := 1) (lv2 := [(1, .int (0 : Int32)), (0, .ref (ad 0))]) C dX7_faultNow_25 rfl (by decide) rfl ?_
    refine g_iconst (pc := 26) (v := 0) C dX7_faultNow_26 (by decide) ?_
    refine g_istore_n (pc := 27) (i := 2) (lv2 := [(2, .int (0 : Int32)), (1, .int (0 : Int32)), (0, .ref (ad 0))]) C dX7_faultNow_27 rfl (by decide) rfl ?_
    refine g_iconst (pc := 28) (v := 0) C dX7_faultNow_28 (by decide) ?_
    refine g_istore_n (pc := 29) (i := 3) (lv2 := [(3, .int (0 : Int32)), (2, .int (0 : Int32)), (1, .int (0 : Int32)), (0, .ref (ad 0))]) C dX7_faultNow_29 rfl (by decide) rfl ?_
    refine g_iconst (pc := 30) (v := 0) C dX7_faultNow_30 (by decide) ?_
    refine g_istore (pc := 31) (i := 4) (j := 0) (lv2 := [(4, .int (0 : Int32)), (3, .int (0 : Int32)), (2, .int (0 : Int32)), (1, .int (0 : Int32)), (0, .ref (ad 0))]) C dX7_faultNow_31 (by decide) rfl ?_
    refine g_sub [4, 3, 2, 1, 0] (lv2 := [(0, .ref (ad 0)), (1, .int (0 : Int32)), (2, .int (0 : Int32)), (3, .int (0 : Int32)), (4, .int (0 : Int32))]) rfl ?_
    refine g_it4 (pc := 33) (u_X7_faultNow_33 C hr _ fun S19 => ?_) _ _ _ _ _ _
    refine g_iconst (pc := 172) (v := -1) C dX7_faultNow_172 (by decide) ?_
    exact g_iret (pc := 173) C hr dX7_faultNow_173
  · refine g_iconst (pc := 22) (v := -1) C dX7_faultNow_22 (by decide) ?_
    exact g_iret (pc := 23) C hr dX7_faultNow_23
noncomputable def m_X7_fault (S : St) : Option (Int32 × St) :=
bnd (m_X7_faultNow S) fun r2 S1 =>
some (r2, S1)
set_option maxRecDepth 20000 in
theorem c_X7_fault {l : Launch} {D : va_G} {ad : Nat → Nat} {cI cJ cZ : ClassId} {n : Nat} (hD : ∀ sz S, va_D (Adr ad n sz) (wM ad cI cJ cZ S)) {S : St} {z : Int32 × St} (hf : m_X7_fault S = some z) : CtI l yX7_fault cX7_fault 1 (some .int) ({ frames := 3, cells := 0, slots := 0, locals := 69 } : Room) D (wM ad cI cJ cZ) (tyX cI cJ cZ) ad n [.ref (ad 0)] S z := by
  refine CtI.of hf (by decide +kernel) (Nat.le_of_ble_eq_true rfl) hD (fun p e s m args below meth c C hr => ?_)
  refine g_sub [0] (lv2 := [(0, .ref (ad 0))]) rfl ?_
  unfold m_X7_fault
  refine g_aload_n (pc := 0) C dX7_fault_0 (i := 0) rfl 0 rfl ?_
  refine g_callVi (pc := 1) (As := []) C q971 mw_X7_faultNow (fun _ hz => c_X7_faultNow C.2.2.2.2.2.2.2.1 hz) ⟨Nat.le_of_ble_eq_true rfl, Nat.le_of_ble_eq_true rfl⟩ rfl rfl 0 rfl rfl rfl (Nat.le_of_ble_eq_true rfl) dX7_fault_1 fun r2 S1 => ?_
  exact g_iret (pc := 4) C hr dX7_fault_4
noncomputable def m_X7_isCell (x1 : Int32) (S : St) : Option (Int32 × St) :=
bnd (m_X7_faultNow S) fun r2 S1 =>
bnd (m_X7_in x1 (0 : Int32) ((gI S1 41 0) - (1 : Int32)) S1) fun r4 S3 =>
zchk r4 (some (r4, S3))
set_option maxRecDepth 20000 in
theorem c_X7_isCell {l : Launch} {D : va_G} {ad : Nat → Nat} {cI cJ cZ : ClassId} {n : Nat} (hD : ∀ sz S, va_D (Adr ad n sz) (wM ad cI cJ cZ S)) {x1 : Int32} {S : St} {z : Int32 × St} (hf : m_X7_isCell x1 S = some z) : CtI l yX7_isCell cX7_isCell 3 (some .boolean) ({ frames := 3, cells := 0, slots := 0, locals := 69 } : Room) D (wM ad cI cJ cZ) (tyX cI cJ cZ) ad n [.ref (ad 0), .int x1] S z := by
  refine CtI.of hf (by decide +kernel) (Nat.le_of_ble_eq_true rfl) hD (fun p e s m args below meth c C hr => ?_)
  refine g_sub [0, 1] (lv2 := [(0, .ref (ad 0)), (1, .int x1)]) rfl ?_
  unfold m_X7_isCell
  refine g_aload_n (pc := 0) C dX7_isCell_0 (i := 0) rfl 0 rfl ?_
  refine g_callVi (pc := 1) (As := []) C q971 mw_X7_faultNow (fun _ hz => c_X7_faultNow C.2.2.2.2.2.2.2.1 hz) ⟨Nat.le_of_ble_eq_true rfl, Nat.le_of_ble_eq_true rfl⟩ rfl rfl 0 rfl rfl rfl (Nat.le_of_ble_eq_true rfl) dX7_isCell_1 fun r2 S1 => ?_
  refine g_istore_n (pc := 4) (i := 2) (lv2 := [(2, .int r2), (0, .ref (ad 0)), (1, .int x1)]) C dX7_isCell_4 rfl (by decide) rfl ?_
  refine g_iload_n (pc := 5) C dX7_isCell_5 (i := 1) rfl 2 rfl ?_
  refine g_iconst (pc := 6) (v := 0) C dX7_isCell_6 (by decide) ?_
  refine g_aload_n (pc := 7) C dX7_isCell_7 (i := 0) rfl 1 rfl ?_
  refine gt_X7_cells (pc := 8) C q875 dX7_isCell_8 ?_
  refine g_iconst (pc := 11) (v := 1) C dX7_isCell_11 (by decide) ?_
  refine g_isub (pc := 12) C dX7_isCell_12 ?_
  refine g_callSi (pc := 13) (As := [.int _, .int _, .int _]) C q960 mw_X7_in (fun _ hz => c_X7_in C.2.2.2.2.2.2.2.1 hz) ⟨Nat.le_of_ble_eq_true rfl, Nat.le_of_ble_eq_true rfl⟩ rfl rfl rfl (Nat.le_of_ble_eq_true rfl) dX7_isCell_13 fun r4 S3 => ?_
  exact g_zret (pc := 16) C hr dX7_isCell_16
noncomputable def m_X7_isTwelve (x0 : Int32) (S : St) : Option (Int32 × St) :=
bnd (m_X7_in x0 (0 : Int32) (11 : Int32) S) fun r2 S1 =>
zchk r2 (some (r2, S1))
set_option maxRecDepth 20000 in
theorem c_X7_isTwelve {l : Launch} {D : va_G} {ad : Nat → Nat} {cI cJ cZ : ClassId} {n : Nat} (hD : ∀ sz S, va_D (Adr ad n sz) (wM ad cI cJ cZ S)) {x0 : Int32} {S : St} {z : Int32 × St} (hf : m_X7_isTwelve x0 S = some z) : CtI l yX7_isTwelve cX7_isTwelve 1 (some .boolean) ({ frames := 1, cells := 0, slots := 0, locals := 22 } : Room) D (wM ad cI cJ cZ) (tyX cI cJ cZ) ad n [.int x0] S z := by
  refine CtI.of hf (by decide +kernel) (Nat.le_of_ble_eq_true rfl) hD (fun p e s m args below meth c C hr => ?_)
  refine g_sub [0] (lv2 := [(0, .int x0)]) rfl ?_
  unfold m_X7_isTwelve
  refine g_iload_n (pc := 0) C dX7_isTwelve_0 (i := 0) rfl 0 rfl ?_
  refine g_iconst (pc := 1) (v := 0) C dX7_isTwelve_1 (by decide) ?_
  refine g_bipush (pc := 2) (v := 11) C dX7_isTwelve_2 (by decide) ?_
  refine g_callSi (pc := 4) (As := [.int _, .int _, .int _]) C q960 mw_X7_in (fun _ hz => c_X7_in C.2.2.2.2.2.2.2.1 hz) ⟨Nat.le_of_ble_eq_true rfl, Nat.le_of_ble_eq_true rfl⟩ rfl rfl rfl (Nat.le_of_ble_eq_true rfl) dX7_isTwelve_4 fun r2 S1 => ?_
  exact g_zret (pc := 7) C hr dX7_isTwelve_7
noncomputable def m_X7_isFour (x0 : Int32) (S : St) : Option (Int32 × St) :=
bnd (m_X7_in x0 (0 : Int32) (3 : Int32) S) fun r2 S1 =>
zchk r2 (some (r2, S1))
set_option maxRecDepth 20000 in
theorem c_X7_isFour {l : Launch} {D : va_G} {ad : Nat → Nat} {cI cJ cZ : ClassId} {n : Nat} (hD : ∀ sz S, va_D (Adr ad n sz) (wM ad cI cJ cZ S)) {x0 : Int32} {S : St} {z : Int32 × St} (hf : m_X7_isFour x0 S = some z) : CtI l yX7_isFour cX7_isFour 1 (some .boolean) ({ frames := 1, cells := 0, slots := 0, locals := 22 } : Room) D (wM ad cI cJ cZ) (tyX cI cJ cZ) ad n [.int x0] S z := by
  refine CtI.of hf (by decide +kernel) (Nat.le_of_ble_eq_true rfl) hD (fun p e s m args below meth c C hr => ?_)
  refine g_sub [0] (lv2 := [(0, .int x0)]) rfl ?_
  unfold m_X7_isFour
  refine g_iload_n (pc := 0) C dX7_isFour_0 (i := 0) rfl 0 rfl ?_
  refine g_iconst (pc := 1) (v := 0) C dX7_isFour_1 (by decide) ?_
  refine g_iconst (pc := 2) (v := 3) C dX7_isFour_2 (by decide) ?_
  refine g_callSi (pc := 3) (As := [.int _, .int _, .int _]) C q960 mw_X7_in (fun _ hz => c_X7_in C.2.2.2.2.2.2.2.1 hz) ⟨Nat.le_of_ble_eq_true rfl, Nat.le_of_ble_eq_true rfl⟩ rfl rfl rfl (Nat.le_of_ble_eq_true rfl) dX7_isFour_3 fun r2 S1 => ?_
  exact g_zret (pc := 6) C hr dX7_isFour_6
noncomputable def m_X7_cellOf (x1 : Int32) (x2 : Int32) (S : St) : Option (Int32 × St) :=
if x2 = 0 then (
chk x1 16 <|
some ((gI S 2 (ix x1)), S))
else
if x2 = (1 : Int32) then (
chk x1 12 <|
some ((gI S 3 (ix x1)), S))
else
chk x1 12 <|
some ((gI S 4 (ix x1)), S)
set_option maxRecDepth 20000 in
theorem c_X7_cellOf {l : Launch} {D : va_G} {ad : Nat → Nat} {cI cJ cZ : ClassId} {n : Nat} (hD : ∀ sz S, va_D (Adr ad n sz) (wM ad cI cJ cZ S)) {x1 : Int32} {x2 : Int32} {S : St} {z : Int32 × St} (hf : m_X7_cellOf x1 x2 S = some z) : CtI l yX7_cellOf cX7_cellOf 3 (some .int) ({ frames := 0, cells := 0, slots := 0, locals := 0 } : Room) D (wM ad cI cJ cZ) (tyX cI cJ cZ) ad n [.ref (ad 0), .int x1, .int x2] S z := by
  refine CtI.of hf (by decide +kernel) (Nat.le_of_ble_eq_true rfl) hD (fun p e s m args below meth c C hr => ?_)
  refine g_sub [0, 1, 2] (lv2 := [(0, .ref (ad 0)), (1, .int x1), (2, .int x2)]) rfl ?_
  unfold m_X7_cellOf
  refine g_iload_n (pc := 0) C dX7_cellOf_0 (i := 2) rfl 2 rfl ?_
  refine g_if_ne (pc := 1) (tgt := 13) C dX7_cellOf_1 (by decide) ?_ ?_
  · refine g_iload_n (pc := 13) C dX7_cellOf_13 (i := 2) rfl 2 rfl ?_
    refine g_iconst (pc := 14) (v := 1) C dX7_cellOf_14 (by decide) ?_
    refine g_icmp_ne (pc := 15) (tgt := 27) C dX7_cellOf_15 (by decide) ?_ ?_
    · refine g_aload_n (pc := 27) C dX7_cellOf_27 (i := 0) rfl 0 rfl ?_
      refine gt_X7_owners (pc := 28) C q880 dX7_cellOf_28 ?_
      refine g_iload_n (pc := 31) C dX7_cellOf_31 (i := 1) rfl 1 rfl ?_
      refine al_X7_owners (pc := 32) C dX7_cellOf_32 ?_
      exact g_iret (pc := 33) C hr dX7_cellOf_33
    · refine g_aload_n (pc := 18) C dX7_cellOf_18 (i := 0) rfl 0 rfl ?_
      refine gt_X7_stands (pc := 19) C q879 dX7_cellOf_19 ?_
      refine g_iload_n (pc := 22) C dX7_cellOf_22 (i := 1) rfl 1 rfl ?_
      refine al_X7_stands (pc := 23) C dX7_cellOf_23 ?_
      refine g_goto (pc := 24) (tgt := 33) C dX7_cellOf_24 (by decide) ?_
      exact g_iret (pc := 33) C hr dX7_cellOf_33
  · refine g_aload_n (pc := 4) C dX7_cellOf_4 (i := 0) rfl 0 rfl ?_
    refine gt_X7_heights (pc := 5) C q878 dX7_cellOf_5 ?_
    refine g_iload_n (pc := 8) C dX7_cellOf_8 (i := 1) rfl 1 rfl ?_
    refine al_X7_heights (pc := 9) C dX7_cellOf_9 ?_
    refine g_goto (pc := 10) (tgt := 33) C dX7_cellOf_10 (by decide) ?_
    exact g_iret (pc := 33) C hr dX7_cellOf_33
noncomputable def m_X7_cell (x1 : Int32) (x2 : Int32) (S : St) : Option (Int32 × St) :=
bnd (m_X7_isCell x1 S) fun r2 S1 =>
if r2 = 0 then (
some ((-2 : Int32), S1))
else
bnd (m_X7_in x2 (0 : Int32) (2 : Int32) S1) fun r4 S3 =>
if r4 = 0 then (
some ((-2 : Int32), S3))
else
bnd (m_X7_cellOf x1 x2 S3) fun r6 S5 =>
some (r6, S5)
set_option maxRecDepth 20000 in
theorem c_X7_cell {l : Launch} {D : va_G} {ad : Nat → Nat} {cI cJ cZ : ClassId} {n : Nat} (hD : ∀ sz S, va_D (Adr ad n sz) (wM ad cI cJ cZ S)) {x1 : Int32} {x2 : Int32} {S : St} {z : Int32 × St} (hf : m_X7_cell x1 x2 S = some z) : CtI l yX7_cell cX7_cell 3 (some .int) ({ frames := 4, cells := 0, slots := 0, locals := 91 } : Room) D (wM ad cI cJ cZ) (tyX cI cJ cZ) ad n [.ref (ad 0), .int x1, .int x2] S z := by
  refine CtI.of hf (by decide +kernel) (Nat.le_of_ble_eq_true rfl) hD (fun p e s m args below meth c C hr => ?_)
  refine g_sub [0, 1, 2] (lv2 := [(0, .ref (ad 0)), (1, .int x1), (2, .int x2)]) rfl ?_
  unfold m_X7_cell
  refine g_aload_n (pc := 0) C dX7_cell_0 (i := 0) rfl 0 rfl ?_
  refine g_iload_n (pc := 1) C dX7_cell_1 (i := 1) rfl 1 rfl ?_
  refine g_callVi (pc := 2) (As := [.int _]) C q983 mw_X7_isCell (fun _ hz => c_X7_isCell C.2.2.2.2.2.2.2.1 hz) ⟨Nat.le_of_ble_eq_true rfl, Nat.le_of_ble_eq_true rfl⟩ rfl rfl 0 rfl rfl rfl (Nat.le_of_ble_eq_true rfl) dX7_cell_2 fun r2 S1 => ?_
  refine g_if_eq (pc := 5) (tgt := 26) C dX7_cell_5 (by decide) ?_ ?_
  · refine g_bipush (pc := 26) (v := -2) C dX7_cell_26 (by decide) ?_
    exact g_iret (pc := 28) C hr dX7_cell_28
  · refine g_iload_n (pc := 8) C dX7_cell_8 (i := 2) rfl 2 rfl ?_
    refine g_iconst (pc := 9) (v := 0) C dX7_cell_9 (by decide) ?_
    refine g_iconst (pc := 10) (v := 2) C dX7_cell_10 (by decide) ?_
    refine g_callSi (pc := 11) (As := [.int _, .int _, .int _]) C q960 mw_X7_in (fun _ hz => c_X7_in C.2.2.2.2.2.2.2.1 hz) ⟨Nat.le_of_ble_eq_true rfl, Nat.le_of_ble_eq_true rfl⟩ rfl rfl rfl (Nat.le_of_ble_eq_true rfl) dX7_cell_11 fun r4 S3 => ?_
    refine g_if_eq (pc := 14) (tgt := 26) C dX7_cell_14 (by decide) ?_ ?_
    · refine g_bipush (pc := 26) (v := -2) C dX7_cell_26 (by decide) ?_
      exact g_iret (pc := 28) C hr dX7_cell_28
    · refine g_aload_n (pc := 17) C dX7_cell_17 (i := 0) rfl 0 rfl ?_
      refine g_iload_n (pc := 18) C dX7_cell_18 (i := 1) rfl 1 rfl ?_
      refine g_iload_n (pc := 19) C dX7_cell_19 (i := 2) rfl 2 rfl ?_
      refine g_callVi (pc := 20) (As := [.int _, .int _]) C q987 mw_X7_cellOf (fun _ hz => c_X7_cellOf C.2.2.2.2.2.2.2.1 hz) ⟨Nat.le_of_ble_eq_true rfl, Nat.le_of_ble_eq_true rfl⟩ rfl rfl 0 rfl rfl rfl (Nat.le_of_ble_eq_true rfl) dX7_cell_20 fun r6 S5 => ?_
      refine g_goto (pc := 23) (tgt := 28) C dX7_cell_23 (by decide) ?_
      exact g_iret (pc := 28) C hr dX7_cell_28
noncomputable def m_X7_stand (x1 : Int32) (x2 : Int32) (S : St) : Option (Int32 × St) :=
bnd (m_X7_isTwelve x1 S) fun r2 S1 =>
if r2 = 0 then (
some ((-2 : Int32), S1))
else
bnd (m_X7_in x2 (0 : Int32) (20 : Int32) S1) fun r4 S3 =>
if r4 = 0 then (
some ((-2 : Int32), S3))
else
chk x1 12 <|
nm ((gI S3 3 (ix x1))) fun y5 =>
chk x1 12 <|
nm (sI S3 3 (ix x1) x2) fun S6 =>
some (y5, S6)
set_option maxRecDepth 20000 in
theorem c_X7_stand {l : Launch} {D : va_G} {ad : Nat → Nat} {cI cJ cZ : ClassId} {n : Nat} (hD : ∀ sz S, va_D (Adr ad n sz) (wM ad cI cJ cZ S)) {x1 : Int32} {x2 : Int32} {S : St} {z : Int32 × St} (hf : m_X7_stand x1 x2 S = some z) : CtI l yX7_stand cX7_stand 4 (some .int) ({ frames := 2, cells := 0, slots := 0, locals := 42 } : Room) D (wM ad cI cJ cZ) (tyX cI cJ cZ) ad n [.ref (ad 0), .int x1, .int x2] S z := by
  refine CtI.of hf (by decide +kernel) (Nat.le_of_ble_eq_true rfl) hD (fun p e s m args below meth c C hr => ?_)
  refine g_sub [0, 1, 2] (lv2 := [(0, .ref (ad 0)), (1, .int x1), (2, .int x2)]) rfl ?_
  unfold m_X7_stand
  refine g_iload_n (pc := 0) C dX7_stand_0 (i := 1) rfl 1 rfl ?_
  refine g_callSi (pc := 1) (As := [.int _]) C q995 mw_X7_isTwelve (fun _ hz => c_X7_isTwelve C.2.2.2.2.2.2.2.1 hz) ⟨Nat.le_of_ble_eq_true rfl, Nat.le_of_ble_eq_true rfl⟩ rfl rfl rfl (Nat.le_of_ble_eq_true rfl) dX7_stand_1 fun r2 S1 => ?_
  refine g_if_eq (pc := 4) (tgt := 17) C dX7_stand_4 (by decide) ?_ ?_
  · refine g_bipush (pc := 17) (v := -2) C dX7_stand_17 (by decide) ?_
    exact g_iret (pc := 19) C hr dX7_stand_19
  · refine g_iload_n (pc := 7) C dX7_stand_7 (i := 2) rfl 2 rfl ?_
    refine g_iconst (pc := 8) (v := 0) C dX7_stand_8 (by decide) ?_
    refine g_bipush (pc := 9) (v := 20) C dX7_stand_9 (by decide) ?_
    refine g_callSi (pc := 11) (As := [.int _, .int _, .int _]) C q960 mw_X7_in (fun _ hz => c_X7_in C.2.2.2.2.2.2.2.1 hz) ⟨Nat.le_of_ble_eq_true rfl, Nat.le_of_ble_eq_true rfl⟩ rfl rfl rfl (Nat.le_of_ble_eq_true rfl) dX7_stand_11 fun r4 S3 => ?_
    refine g_if_ne (pc := 14) (tgt := 20) C dX7_stand_14 (by decide) ?_ ?_
    · refine g_aload_n (pc := 20) C dX7_stand_20 (i := 0) rfl 0 rfl ?_
      refine gt_X7_stands (pc := 21) C q879 dX7_stand_21 ?_
      refine g_iload_n (pc := 24) C dX7_stand_24 (i := 1) rfl 1 rfl ?_
      refine al_X7_stands (pc := 25) C dX7_stand_25 ?_
      refine g_nmi fun y5 => ?_
      refine g_istore_n (pc := 26) (i := 3) (lv2 := [(3, .int y5), (0, .ref (ad 0)), (1, .int x1), (2, .int x2)]) C dX7_stand_26 rfl (by decide) rfl ?_
      refine g_aload_n (pc := 27) C dX7_stand_27 (i := 0) rfl 1 rfl ?_
      refine gt_X7_stands (pc := 28) C q879 dX7_stand_28 ?_
      refine g_iload_n (pc := 31) C dX7_stand_31 (i := 1) rfl 2 rfl ?_
      refine g_iload_n (pc := 32) C dX7_stand_32 (i := 2) rfl 3 rfl ?_
      refine as_X7_stands (pc := 33) C dX7_stand_33 fun S6 => ?_
      refine g_iload_n (pc := 34) C dX7_stand_34 (i := 3) rfl 0 rfl ?_
      exact g_iret (pc := 35) C hr dX7_stand_35
    · refine g_bipush (pc := 17) (v := -2) C dX7_stand_17 (by decide) ?_
      exact g_iret (pc := 19) C hr dX7_stand_19
noncomputable def m_X7_owner (x1 : Int32) (x2 : Int32) (S : St) : Option (Int32 × St) :=
bnd (m_X7_isTwelve x1 S) fun r2 S1 =>
if r2 = 0 then (
some ((-2 : Int32), S1))
else
bnd (m_X7_isFour x2 S1) fun r4 S3 =>
if r4 = 0 then (
some ((-2 : Int32), S3))
else
chk x1 12 <|
nm ((gI S3 4 (ix x1))) fun y5 =>
chk x1 12 <|
nm (sI S3 4 (ix x1) x2) fun S6 =>
some (y5, S6)
set_option maxRecDepth 20000 in
theorem c_X7_owner {l : Launch} {D : va_G} {ad : Nat → Nat} {cI cJ cZ : ClassId} {n : Nat} (hD : ∀ sz S, va_D (Adr ad n sz) (wM ad cI cJ cZ S)) {x1 : Int32} {x2 : Int32} {S : St} {z : Int32 × St} (hf : m_X7_owner x1 x2 S = some z) : CtI l yX7_owner cX7_owner 4 (some .int) ({ frames := 2, cells := 0, slots := 0, locals := 42 } : Room) D (wM ad cI cJ cZ) (tyX cI cJ cZ) ad n [.ref (ad 0), .int x1, .int x2] S z := by
  refine CtI.of hf (by decide +kernel) (Nat.le_of_ble_eq_true rfl) hD (fun p e s m args below meth c C hr => ?_)
  refine g_sub [0, 1, 2] (lv2 := [(0, .ref (ad 0)), (1, .int x1), (2, .int x2)]) rfl ?_
  unfold m_X7_owner
  refine g_iload_n (pc := 0) C dX7_owner_0 (i := 1) rfl 1 rfl ?_
  refine g_callSi (pc := 1) (As := [.int _]) C q995 mw_X7_isTwelve (fun _ hz => c_X7_isTwelve C.2.2.2.2.2.2.2.1 hz) ⟨Nat.le_of_ble_eq_true rfl, Nat.le_of_ble_eq_true rfl⟩ rfl rfl rfl (Nat.le_of_ble_eq_true rfl) dX7_owner_1 fun r2 S1 => ?_
  refine g_if_eq (pc := 4) (tgt := 14) C dX7_owner_4 (by decide) ?_ ?_
  · refine g_bipush (pc := 14) (v := -2) C dX7_owner_14 (by decide) ?_
    exact g_iret (pc := 16) C hr dX7_owner_16
  · refine g_iload_n (pc := 7) C dX7_owner_7 (i := 2) rfl 2 rfl ?_
    refine g_callSi (pc := 8) (As := [.int _]) C q1002 mw_X7_isFour (fun _ hz => c_X7_isFour C.2.2.2.2.2.2.2.1 hz) ⟨Nat.le_of_ble_eq_true rfl, Nat.le_of_ble_eq_true rfl⟩ rfl rfl rfl (Nat.le_of_ble_eq_true rfl) dX7_owner_8 fun r4 S3 => ?_
    refine g_if_ne (pc := 11) (tgt := 17) C dX7_owner_11 (by decide) ?_ ?_
    · refine g_aload_n (pc := 17) C dX7_owner_17 (i := 0) rfl 0 rfl ?_
      refine gt_X7_owners (pc := 18) C q880 dX7_owner_18 ?_
      refine g_iload_n (pc := 21) C dX7_owner_21 (i := 1) rfl 1 rfl ?_
      refine al_X7_owners (pc := 22) C dX7_owner_22 ?_
      refine g_nmi fun y5 => ?_
      refine g_istore_n (pc := 23) (i := 3) (lv2 := [(3, .int y5), (0, .ref (ad 0)), (1, .int x1), (2, .int x2)]) C dX7_owner_23 rfl (by decide) rfl ?_
      refine g_aload_n (pc := 24) C dX7_owner_24 (i := 0) rfl 1 rfl ?_
      refine gt_X7_owners (pc := 25) C q880 dX7_owner_25 ?_
      refine g_iload_n (pc := 28) C dX7_owner_28 (i := 1) rfl 2 rfl ?_
      refine g_iload_n (pc := 29) C dX7_owner_29 (i := 2) rfl 3 rfl ?_
      refine as_X7_owners (pc := 30) C dX7_owner_30 fun S6 => ?_
      refine g_iload_n (pc := 31) C dX7_owner_31 (i := 3) rfl 0 rfl ?_
      exact g_iret (pc := 32) C hr dX7_owner_32
    · refine g_bipush (pc := 14) (v := -2) C dX7_owner_14 (by decide) ?_
      exact g_iret (pc := 16) C hr dX7_owner_16
noncomputable def m_X7_isSheet (x0 : Int32) (S : St) : Option (Int32 × St) :=
bnd (m_X7_in x0 (0 : Int32) (3 : Int32) S) fun r2 S1 =>
zchk r2 (some (r2, S1))
set_option maxRecDepth 20000 in
theorem c_X7_isSheet {l : Launch} {D : va_G} {ad : Nat → Nat} {cI cJ cZ : ClassId} {n : Nat} (hD : ∀ sz S, va_D (Adr ad n sz) (wM ad cI cJ cZ S)) {x0 : Int32} {S : St} {z : Int32 × St} (hf : m_X7_isSheet x0 S = some z) : CtI l yX7_isSheet cX7_isSheet 1 (some .boolean) ({ frames := 1, cells := 0, slots := 0, locals := 22 } : Room) D (wM ad cI cJ cZ) (tyX cI cJ cZ) ad n [.int x0] S z := by
  refine CtI.of hf (by decide +kernel) (Nat.le_of_ble_eq_true rfl) hD (fun p e s m args below meth c C hr => ?_)
  refine g_sub [0] (lv2 := [(0, .int x0)]) rfl ?_
  unfold m_X7_isSheet
  refine g_iload_n (pc := 0) C dX7_isSheet_0 (i := 0) rfl 0 rfl ?_
  refine g_iconst (pc := 1) (v := 0) C dX7_isSheet_1 (by decide) ?_
  refine g_iconst (pc := 2) (v := 3) C dX7_isSheet_2 (by decide) ?_
  refine g_callSi (pc := 3) (As := [.int _, .int _, .int _]) C q960 mw_X7_in (fun _ hz => c_X7_in C.2.2.2.2.2.2.2.1 hz) ⟨Nat.le_of_ble_eq_true rfl, Nat.le_of_ble_eq_true rfl⟩ rfl rfl rfl (Nat.le_of_ble_eq_true rfl) dX7_isSheet_3 fun r2 S1 => ?_
  exact g_zret (pc := 6) C hr dX7_isSheet_6
noncomputable def m_X7_meets (x1 : Int32) (S : St) : Option (Int32 × St) :=
nm (sI S 45 0 x1) fun S1 =>
some (((-10 : Int32) - x1), S1)
set_option maxRecDepth 20000 in
theorem c_X7_meets {l : Launch} {D : va_G} {ad : Nat → Nat} {cI cJ cZ : ClassId} {n : Nat} (hD : ∀ sz S, va_D (Adr ad n sz) (wM ad cI cJ cZ S)) {x1 : Int32} {S : St} {z : Int32 × St} (hf : m_X7_meets x1 S = some z) : CtI l yX7_meets cX7_meets 2 (some .int) ({ frames := 0, cells := 0, slots := 0, locals := 0 } : Room) D (wM ad cI cJ cZ) (tyX cI cJ cZ) ad n [.ref (ad 0), .int x1] S z := by
  refine CtI.of hf (by decide +kernel) (Nat.le_of_ble_eq_true rfl) hD (fun p e s m args below meth c C hr => ?_)
  refine g_sub [0, 1] (lv2 := [(0, .ref (ad 0)), (1, .int x1)]) rfl ?_
  unfold m_X7_meets
  refine g_aload_n (pc := 0) C dX7_meets_0 (i := 0) rfl 0 rfl ?_
  refine g_iload_n (pc := 1) C dX7_meets_1 (i := 1) rfl 1 rfl ?_
  refine pt_X7_finding (pc := 2) C q899 dX7_meets_2 fun S1 => ?_
  refine g_bipush (pc := 5) (v := -10) C dX7_meets_5 (by decide) ?_
  refine g_iload_n (pc := 7) C dX7_meets_7 (i := 1) rfl 1 rfl ?_
  refine g_isub (pc := 8) C dX7_meets_8 ?_
  exact g_iret (pc := 9) C hr dX7_meets_9
noncomputable def b_X7_read_27 (x1 : Int32) (k : Int32 → St → Option (Int32 × St)) (rec : Int32 → St → Option (Int32 × St)) (x2 : Int32) (S : St) : Option (Int32 × St) :=
chk x1 4 <|
if x2 < (gI S 19 (ix x1)) then (
if x2 < (12 : Int32) then (
chk (((48 : Int32) * x1) + x2) 192 <|
bnd (m_X7_isFour (gI S 20 (ix (((48 : Int32) * x1) + x2))) S) fun r4 S3 =>
if r4 = 0 then (
k x2 S3)
else
chk (((48 : Int32) * x1) + x2) 192 <|
chk x2 12 <|
nm (sI S3 4 (ix x2) (gI S3 20 (ix (((48 : Int32) * x1) + x2)))) fun S5 =>
rec (x2 + 1) S5)
else
k x2 S)
else
k x2 S
noncomputable def m_X7_read (x1 : Int32) (S : St) : Option (Int32 × St) :=
bnd (m_X7_isSheet x1 S) fun r2 S1 =>
if r2 = 0 then (
some ((-2 : Int32), S1))
else
chk x1 4 <|
if (gI S1 17 (ix x1)) = 0 then (
bnd (m_X7_meets (1 : Int32) S1) fun r8 S7 =>
some (r8, S7))
else
it1 (b_X7_read_27 x1 (fun x2_S6 S6 =>
some (x2_S6, S6))) 5000 (0 : Int32) S1
set_option maxRecDepth 20000 in
theorem u_X7_read_27 (C : Cx p s m args meth c cX7_read 3 RX7 D (tyX cI cJ cZ) ad n (wM ad cI cJ cZ)) (hr : meth.sig.returnType = (some .int)) (x1 : Int32) (k : Int32 → St → Option (Int32 × St)) (hk : ∀ (x2 : Int32) (S : St), GM p l e ({ frames := 2, cells := 0, slots := 0, locals := 42 } : Room) s m args below meth c D ad n (wM ad cI cJ cZ) 3 (QI D (wM ad cI cJ cZ) ad n args s below) (k x2 S) S 83 [(2, .int x2)] []) (rec : Int32 → St → Option (Int32 × St)) (hrec : ∀ (x2 : Int32) (S : St), GM p l e ({ frames := 2, cells := 0, slots := 0, locals := 42 } : Room) s m args below meth c D ad n (wM ad cI cJ cZ) 3 (QI D (wM ad cI cJ cZ) ad n args s below) (rec x2 S) S 27 [(0, .ref (ad 0)), (1, .int x1), (2, .int x2)] []) (x2 : Int32) (S : St) : GM p l e ({ frames := 2, cells := 0, slots := 0, locals := 42 } : Room) s m args below meth c D ad n (wM ad cI cJ cZ) 3 (QI D (wM ad cI cJ cZ) ad n args s below) (b_X7_read_27 x1 k rec x2 S) S 27 [(0, .ref (ad 0)), (1, .int x1), (2, .int x2)] [] := by
  unfold b_X7_read_27
  refine g_iload_n (pc := 27) C dX7_read_27 (i := 2) rfl 2 rfl ?_
  refine g_aload_n (pc := 28) C dX7_read_28 (i := 0) rfl 0 rfl ?_
  refine gt_X7_sizes (pc := 29) C q896 dX7_read_29 ?_
  refine g_iload_n (pc := 32) C dX7_read_32 (i := 1) rfl 1 rfl ?_
  refine al_X7_sizes (pc := 33) C dX7_read_33 ?_
  refine g_icmp_ge (pc := 34) (tgt := 83) C dX7_read_34 (by decide) ?_ ?_
  · refine g_sub [2] rfl (hk _ _)
  · refine g_iload_n (pc := 37) C dX7_read_37 (i := 2) rfl 2 rfl ?_
    refine g_bipush (pc := 38) (v := 12) C dX7_read_38 (by decide) ?_
    refine g_icmp_ge (pc := 40) (tgt := 83) C dX7_read_40 (by decide) ?_ ?_
    · refine g_sub [2] rfl (hk _ _)
    · refine g_aload_n (pc := 43) C dX7_read_43 (i := 0) rfl 0 rfl ?_
      refine gt_X7_items (pc := 44) C q897 dX7_read_44 ?_
      refine g_bipush (pc := 47) (v := 48) C dX7_read_47 (by decide) ?_
      refine g_iload_n (pc := 49) C dX7_read_49 (i := 1) rfl 1 rfl ?_
      refine g_imul (pc := 50) C dX7_read_50 ?_
      refine g_iload_n (pc := 51) C dX7_read_51 (i := 2) rfl 2 rfl ?_
      refine g_iadd (pc := 52) C dX7_read_52 ?_
      refine al_X7_items (pc := 53) C dX7_read_53 ?_
      refine g_callSi (pc := 54) (As := [.int _]) C q1002 mw_X7_isFour (fun _ hz => c_X7_isFour C.2.2.2.2.2.2.2.1 hz) ⟨Nat.le_of_ble_eq_true rfl, Nat.le_of_ble_eq_true rfl⟩ rfl rfl rfl (Nat.le_of_ble_eq_true rfl) dX7_read_54 fun r4 S3 => ?_
      refine g_if_eq (pc := 57) (tgt := 83) C dX7_read_57 (by decide) ?_ ?_
      · refine g_sub [2] rfl (hk _ _)
      · refine g_aload_n (pc := 60) C dX7_read_60 (i := 0) rfl 0 rfl ?_
        refine gt_X7_owners (pc := 61) C q880 dX7_read_61 ?_
        refine g_iload_n (pc := 64) C dX7_read_64 (i := 2) rfl 2 rfl ?_
        refine g_aload_n (pc := 65) C dX7_read_65 (i := 0) rfl 0 rfl ?_
        refine gt_X7_items (pc := 66) C q897 dX7_read_66 ?_
        refine g_bipush (pc := 69) (v := 48) C dX7_read_69 (by decide) ?_
        refine g_iload_n (pc := 71) C dX7_read_71 (i := 1) rfl 1 rfl ?_
        refine g_imul (pc := 72) C dX7_read_72 ?_
        refine g_iload_n (pc := 73) C dX7_read_73 (i := 2) rfl 2 rfl ?_
        refine g_iadd (pc := 74) C dX7_read_74 ?_
        refine al_X7_items (pc := 75) C dX7_read_75 ?_
        refine as_X7_owners (pc := 76) C dX7_read_76 fun S5 => ?_
        refine g_iinc (pc := 77) (v := (x2 + 1)) (lv2 := [(2, .int (x2 + 1)), (0, .ref (ad 0)), (1, .int x1)]) C dX7_read_77 2 rfl rfl (by decide) rfl ?_
        refine g_goto (pc := 80) (tgt := 27) C dX7_read_80 (by decide) ?_
        refine g_sub [1, 2, 0] rfl (hrec _ _)
set_option maxRecDepth 20000 in
theorem c_X7_read {l : Launch} {D : va_G} {ad : Nat → Nat} {cI cJ cZ : ClassId} {n : Nat} (hD : ∀ sz S, va_D (Adr ad n sz) (wM ad cI cJ cZ S)) {x1 : Int32} {S : St} {z : Int32 × St} (hf : m_X7_read x1 S = some z) : CtI l yX7_read cX7_read 3 (some .int) ({ frames := 2, cells := 0, slots := 0, locals := 42 } : Room) D (wM ad cI cJ cZ) (tyX cI cJ cZ) ad n [.ref (ad 0), .int x1] S z := by
  refine CtI.of hf (by decide +kernel) (Nat.le_of_ble_eq_true rfl) hD (fun p e s m args below meth c C hr => ?_)
  refine g_sub [0, 1] (lv2 := [(0, .ref (ad 0)), (1, .int x1)]) rfl ?_
  unfold m_X7_read
  refine g_iload_n (pc := 0) C dX7_read_0 (i := 1) rfl 1 rfl ?_
  refine g_callSi (pc := 1) (As := [.int _]) C q1009 mw_X7_isSheet (fun _ hz => c_X7_isSheet C.2.2.2.2.2.2.2.1 hz) ⟨Nat.le_of_ble_eq_true rfl, Nat.le_of_ble_eq_true rfl⟩ rfl rfl rfl (Nat.le_of_ble_eq_true rfl) dX7_read_1 fun r2 S1 => ?_
  refine g_if_ne (pc := 4) (tgt := 10) C dX7_read_4 (by decide) ?_ ?_
  · refine g_aload_n (pc := 10) C dX7_read_10 (i := 0) rfl 0 rfl ?_
    refine gt_X7_isThere (pc := 11) C q894 dX7_read_11 ?_
    refine g_iload_n (pc := 14) C dX7_read_14 (i := 1) rfl 1 rfl ?_
    refine al_X7_isThere (pc := 15) C dX7_read_15 ?_
    refine g_if_ne (pc := 16) (tgt := 25) C dX7_read_16 (by decide) ?_ ?_
    · refine g_iconst (pc := 25) (v := 0) C dX7_read_25 (by decide) ?_
      refine g_istore_n (pc := 26) (i := 2) (lv2 := [(2, .int (0 : Int32)), (0, .ref (ad 0)), (1, .int x1)]) C dX7_read_26 rfl (by decide) rfl ?_
      refine g_sub [1, 2, 0] (lv2 := [(0, .ref (ad 0)), (1, .int x1), (2, .int (0 : Int32))]) rfl ?_
      refine g_it1 (pc := 27) (u_X7_read_27 C hr _ _ fun x2_S6 S6 => ?_) _ _ _
      refine g_iload_n (pc := 83) C dX7_read_83 (i := 2) rfl 0 rfl ?_
      exact g_iret (pc := 84) C hr dX7_read_84
    · refine g_aload_n (pc := 19) C dX7_read_19 (i := 0) rfl 0 rfl ?_
      refine g_iconst (pc := 20) (v := 1) C dX7_read_20 (by decide) ?_
      refine g_callVi (pc := 21) (As := [.int _]) C q1012 mw_X7_meets (fun _ hz => c_X7_meets C.2.2.2.2.2.2.2.1 hz) ⟨Nat.le_of_ble_eq_true rfl, Nat.le_of_ble_eq_true rfl⟩ rfl rfl 0 rfl rfl rfl (Nat.le_of_ble_eq_true rfl) dX7_read_21 fun r8 S7 => ?_
      exact g_iret (pc := 24) C hr dX7_read_24
  · refine g_bipush (pc := 7) (v := -2) C dX7_read_7 (by decide) ?_
    exact g_iret (pc := 9) C hr dX7_read_9
noncomputable def m_X7_days (x1 : Int32) (x2 : Int32) (S : St) : Option (Int32 × St) :=
bnd (m_X7_isFour x1 S) fun r2 S1 =>
if r2 = 0 then (
some ((-2 : Int32), S1))
else
bnd (m_X7_in x2 (0 : Int32) (99 : Int32) S1) fun r4 S3 =>
if r4 = 0 then (
some ((-2 : Int32), S3))
else
chk x1 4 <|
nm ((gI S3 5 (ix x1))) fun y5 =>
chk x1 4 <|
nm (sI S3 5 (ix x1) x2) fun S6 =>
some (y5, S6)
set_option maxRecDepth 20000 in
theorem c_X7_days {l : Launch} {D : va_G} {ad : Nat → Nat} {cI cJ cZ : ClassId} {n : Nat} (hD : ∀ sz S, va_D (Adr ad n sz) (wM ad cI cJ cZ S)) {x1 : Int32} {x2 : Int32} {S : St} {z : Int32 × St} (hf : m_X7_days x1 x2 S = some z) : CtI l yX7_days cX7_days 4 (some .int) ({ frames := 2, cells := 0, slots := 0, locals := 42 } : Room) D (wM ad cI cJ cZ) (tyX cI cJ cZ) ad n [.ref (ad 0), .int x1, .int x2] S z := by
  refine CtI.of hf (by decide +kernel) (Nat.le_of_ble_eq_true rfl) hD (fun p e s m args below meth c C hr => ?_)
  refine g_sub [0, 1, 2] (lv2 := [(0, .ref (ad 0)), (1, .int x1), (2, .int x2)]) rfl ?_
  unfold m_X7_days
  refine g_iload_n (pc := 0) C dX7_days_0 (i := 1) rfl 1 rfl ?_
  refine g_callSi (pc := 1) (As := [.int _]) C q1002 mw_X7_isFour (fun _ hz => c_X7_isFour C.2.2.2.2.2.2.2.1 hz) ⟨Nat.le_of_ble_eq_true rfl, Nat.le_of_ble_eq_true rfl⟩ rfl rfl rfl (Nat.le_of_ble_eq_true rfl) dX7_days_1 fun r2 S1 => ?_
  refine g_if_eq (pc := 4) (tgt := 17) C dX7_days_4 (by decide) ?_ ?_
  · refine g_bipush (pc := 17) (v := -2) C dX7_days_17 (by decide) ?_
    exact g_iret (pc := 19) C hr dX7_days_19
  · refine g_iload_n (pc := 7) C dX7_days_7 (i := 2) rfl 2 rfl ?_
    refine g_iconst (pc := 8) (v := 0) C dX7_days_8 (by decide) ?_
    refine g_bipush (pc := 9) (v := 99) C dX7_days_9 (by decide) ?_
    refine g_callSi (pc := 11) (As := [.int _, .int _, .int _]) C q960 mw_X7_in (fun _ hz => c_X7_in C.2.2.2.2.2.2.2.1 hz) ⟨Nat.le_of_ble_eq_true rfl, Nat.le_of_ble_eq_true rfl⟩ rfl rfl rfl (Nat.le_of_ble_eq_true rfl) dX7_days_11 fun r4 S3 => ?_
    refine g_if_ne (pc := 14) (tgt := 20) C dX7_days_14 (by decide) ?_ ?_
    · refine g_aload_n (pc := 20) C dX7_days_20 (i := 0) rfl 0 rfl ?_
      refine gt_X7_dayOf (pc := 21) C q881 dX7_days_21 ?_
      refine g_iload_n (pc := 24) C dX7_days_24 (i := 1) rfl 1 rfl ?_
      refine al_X7_dayOf (pc := 25) C dX7_days_25 ?_
      refine g_nmi fun y5 => ?_
      refine g_istore_n (pc := 26) (i := 3) (lv2 := [(3, .int y5), (0, .ref (ad 0)), (1, .int x1), (2, .int x2)]) C dX7_days_26 rfl (by decide) rfl ?_
      refine g_aload_n (pc := 27) C dX7_days_27 (i := 0) rfl 1 rfl ?_
      refine gt_X7_dayOf (pc := 28) C q881 dX7_days_28 ?_
      refine g_iload_n (pc := 31) C dX7_days_31 (i := 1) rfl 2 rfl ?_
      refine g_iload_n (pc := 32) C dX7_days_32 (i := 2) rfl 3 rfl ?_
      refine as_X7_dayOf (pc := 33) C dX7_days_33 fun S6 => ?_
      refine g_iload_n (pc := 34) C dX7_days_34 (i := 3) rfl 0 rfl ?_
      exact g_iret (pc := 35) C hr dX7_days_35
    · refine g_bipush (pc := 17) (v := -2) C dX7_days_17 (by decide) ?_
      exact g_iret (pc := 19) C hr dX7_days_19
noncomputable def m_X7_steepOf (x0 : Int32) (x1 : Int32) (S : St) : Option (Int32 × St) :=
if x1 < (6 : Int32) then (
some (((x0 + (1 : Int32)) * (x1 + (1 : Int32))), S))
else
some (((x0 + (1 : Int32)) * ((12 : Int32) - x1)), S)
set_option maxRecDepth 20000 in
theorem c_X7_steepOf {l : Launch} {D : va_G} {ad : Nat → Nat} {cI cJ cZ : ClassId} {n : Nat} (hD : ∀ sz S, va_D (Adr ad n sz) (wM ad cI cJ cZ S)) {x0 : Int32} {x1 : Int32} {S : St} {z : Int32 × St} (hf : m_X7_steepOf x0 x1 S = some z) : CtI l yX7_steepOf cX7_steepOf 2 (some .int) ({ frames := 0, cells := 0, slots := 0, locals := 0 } : Room) D (wM ad cI cJ cZ) (tyX cI cJ cZ) ad n [.int x0, .int x1] S z := by
  refine CtI.of hf (by decide +kernel) (Nat.le_of_ble_eq_true rfl) hD (fun p e s m args below meth c C hr => ?_)
  refine g_sub [0, 1] (lv2 := [(0, .int x0), (1, .int x1)]) rfl ?_
  unfold m_X7_steepOf
  refine g_iload_n (pc := 0) C dX7_steepOf_0 (i := 0) rfl 0 rfl ?_
  refine g_iconst (pc := 1) (v := 1) C dX7_steepOf_1 (by decide) ?_
  refine g_iadd (pc := 2) C dX7_steepOf_2 ?_
  refine g_iload_n (pc := 3) C dX7_steepOf_3 (i := 1) rfl 1 rfl ?_
  refine g_bipush (pc := 4) (v := 6) C dX7_steepOf_4 (by decide) ?_
  refine g_icmp_ge (pc := 6) (tgt := 15) C dX7_steepOf_6 (by decide) ?_ ?_
  · refine g_bipush (pc := 15) (v := 12) C dX7_steepOf_15 (by decide) ?_
    refine g_iload_n (pc := 17) C dX7_steepOf_17 (i := 1) rfl 1 rfl ?_
    refine g_isub (pc := 18) C dX7_steepOf_18 ?_
    refine g_imul (pc := 19) C dX7_steepOf_19 ?_
    exact g_iret (pc := 20) C hr dX7_steepOf_20
  · refine g_iload_n (pc := 9) C dX7_steepOf_9 (i := 1) rfl 1 rfl ?_
    refine g_iconst (pc := 10) (v := 1) C dX7_steepOf_10 (by decide) ?_
    refine g_iadd (pc := 11) C dX7_steepOf_11 ?_
    refine g_goto (pc := 12) (tgt := 19) C dX7_steepOf_12 (by decide) ?_
    refine g_imul (pc := 19) C dX7_steepOf_19 ?_
    exact g_iret (pc := 20) C hr dX7_steepOf_20
noncomputable def m_X7_steep (x1 : Int32) (x2 : Int32) (S : St) : Option (Int32 × St) :=
bnd (m_X7_isFour x1 S) fun r2 S1 =>
if r2 = 0 then (
some ((-2 : Int32), S1))
else
bnd (m_X7_isTwelve x2 S1) fun r4 S3 =>
if r4 = 0 then (
some ((-2 : Int32), S3))
else
bnd (m_X7_steepOf x1 x2 S3) fun r6 S5 =>
some (r6, S5)
set_option maxRecDepth 20000 in
theorem c_X7_steep {l : Launch} {D : va_G} {ad : Nat → Nat} {cI cJ cZ : ClassId} {n : Nat} (hD : ∀ sz S, va_D (Adr ad n sz) (wM ad cI cJ cZ S)) {x1 : Int32} {x2 : Int32} {S : St} {z : Int32 × St} (hf : m_X7_steep x1 x2 S = some z) : CtI l yX7_steep cX7_steep 3 (some .int) ({ frames := 2, cells := 0, slots := 0, locals := 42 } : Room) D (wM ad cI cJ cZ) (tyX cI cJ cZ) ad n [.ref (ad 0), .int x1, .int x2] S z := by
  refine CtI.of hf (by decide +kernel) (Nat.le_of_ble_eq_true rfl) hD (fun p e s m args below meth c C hr => ?_)
  refine g_sub [0, 1, 2] (lv2 := [(0, .ref (ad 0)), (1, .int x1), (2, .int x2)]) rfl ?_
  unfold m_X7_steep
  refine g_iload_n (pc := 0) C dX7_steep_0 (i := 1) rfl 1 rfl ?_
  refine g_callSi (pc := 1) (As := [.int _]) C q1002 mw_X7_isFour (fun _ hz => c_X7_isFour C.2.2.2.2.2.2.2.1 hz) ⟨Nat.le_of_ble_eq_true rfl, Nat.le_of_ble_eq_true rfl⟩ rfl rfl rfl (Nat.le_of_ble_eq_true rfl) dX7_steep_1 fun r2 S1 => ?_
  refine g_if_eq (pc := 4) (tgt := 22) C dX7_steep_4 (by decide) ?_ ?_
  · refine g_bipush (pc := 22) (v := -2) C dX7_steep_22 (by decide) ?_
    exact g_iret (pc := 24) C hr dX7_steep_24
  · refine g_iload_n (pc := 7) C dX7_steep_7 (i := 2) rfl 2 rfl ?_
    refine g_callSi (pc := 8) (As := [.int _]) C q995 mw_X7_isTwelve (fun _ hz => c_X7_isTwelve C.2.2.2.2.2.2.2.1 hz) ⟨Nat.le_of_ble_eq_true rfl, Nat.le_of_ble_eq_true rfl⟩ rfl rfl rfl (Nat.le_of_ble_eq_true rfl) dX7_steep_8 fun r4 S3 => ?_
    refine g_if_eq (pc := 11) (tgt := 22) C dX7_steep_11 (by decide) ?_ ?_
    · refine g_bipush (pc := 22) (v := -2) C dX7_steep_22 (by decide) ?_
      exact g_iret (pc := 24) C hr dX7_steep_24
    · refine g_iload_n (pc := 14) C dX7_steep_14 (i := 1) rfl 1 rfl ?_
      refine g_iload_n (pc := 15) C dX7_steep_15 (i := 2) rfl 2 rfl ?_
      refine g_callSi (pc := 16) (As := [.int _, .int _]) C q1024 mw_X7_steepOf (fun _ hz => c_X7_steepOf C.2.2.2.2.2.2.2.1 hz) ⟨Nat.le_of_ble_eq_true rfl, Nat.le_of_ble_eq_true rfl⟩ rfl rfl rfl (Nat.le_of_ble_eq_true rfl) dX7_steep_16 fun r6 S5 => ?_
      refine g_goto (pc := 19) (tgt := 24) C dX7_steep_19 (by decide) ?_
      exact g_iret (pc := 24) C hr dX7_steep_24
end MM
