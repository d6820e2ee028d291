section MM
variable {p : Program} {l : Launch} {e : Env} {s : State} {m : MethodId} {args : Array Value} {below : List Frame} {meth : Method} {c : Code} {D : va_G} {ad : Nat → Nat} {n : Nat} {cI cJ cZ : ClassId}
noncomputable def m_X6_isRing (x1 : Int32) (x2 : Int32) (x3 : Int32) (S : St) : Option (Int32 × St) :=
chk x1 12 <|
chk x2 12 <|
if (gI S 25 (ix x1)) = (gI S 25 (ix x2)) then (
if (0 : Int32) = 0 then (
some ((0 : Int32), S))
else
bnd (m_X6_wouldRather x1 x2 S) fun r2 S1 =>
if r2 = 0 then (
some ((0 : Int32), S1))
else
bnd (m_X6_wouldRather x2 x3 S1) fun r4 S3 =>
if r4 = 0 then (
some ((0 : Int32), S3))
else
bnd (m_X6_wouldRather x3 x1 S3) fun r6 S5 =>
if r6 = 0 then (
some ((0 : Int32), S5))
else
some ((1 : Int32), S5))
else
chk x2 12 <|
chk x3 12 <|
if (gI S 25 (ix x2)) = (gI S 25 (ix x3)) then (
if (0 : Int32) = 0 then (
some ((0 : Int32), S))
else
bnd (m_X6_wouldRather x1 x2 S) fun r8 S7 =>
if r8 = 0 then (
some ((0 : Int32), S7))
else
bnd (m_X6_wouldRather x2 x3 S7) fun r10 S9 =>
if r10 = 0 then (
some ((0 : Int32), S9))
else
bnd (m_X6_wouldRather x3 x1 S9) fun r12 S11 =>
if r12 = 0 then (
some ((0 : Int32), S11))
else
some ((1 : Int32), S11))
else
chk x3 12 <|
chk x1 12 <|
if (gI S 25 (ix x3)) = (gI S 25 (ix x1)) then (
if (0 : Int32) = 0 then (
some ((0 : Int32), S))
else
bnd (m_X6_wouldRather x1 x2 S) fun r14 S13 =>
if r14 = 0 then (
some ((0 : Int32), S13))
else
bnd (m_X6_wouldRather x2 x3 S13) fun r16 S15 =>
if r16 = 0 then (
some ((0 : Int32), S15))
else
bnd (m_X6_wouldRather x3 x1 S15) fun r18 S17 =>
if r18 = 0 then (
some ((0 : Int32), S17))
else
some ((1 : Int32), S17))
else
if (1 : Int32) = 0 then (
some ((0 : Int32), S))
else
bnd (m_X6_wouldRather x1 x2 S) fun r20 S19 =>
if r20 = 0 then (
some ((0 : Int32), S19))
else
bnd (m_X6_wouldRather x2 x3 S19) fun r22 S21 =>
if r22 = 0 then (
some ((0 : Int32), S21))
else
bnd (m_X6_wouldRather x3 x1 S21) fun r24 S23 =>
if r24 = 0 then (
some ((0 : Int32), S23))
else
some ((1 : Int32), S23)
set_option maxRecDepth 20000 in
theorem c_X6_isRing {l : Launch} {D : va_G} {ad : Nat → Nat} {cI cJ cZ : ClassId} {n : Nat} (hD : ∀ sz S, va_D (Adr ad n sz) (wX ad cI cJ cZ S)) {x1 : Int32} {x2 : Int32} {x3 : Int32} {S : St} {z : Int32 × St} (hf : m_X6_isRing x1 x2 x3 S = some z) : CtI l yX6_isRing cX6_isRing 5 (some .boolean) ({ frames := 3, cells := 0, slots := 0, locals := 68 } : Room) D (wX ad cI cJ cZ) (tyX cI cJ cZ) ad n [.ref (ad 0), .int x1, .int x2, .int x3] S z := by
  refine CtI.of hf (by decide +kernel) (Nat.le_of_ble_eq_true rfl) hD (fun p e s m args below meth c C hr => ?_)
  refine g_sub [0, 1, 2, 3] (lv2 := [(0, .ref (ad 0)), (1, .int x1), (2, .int x2), (3, .int x3)]) rfl ?_
  unfold m_X6_isRing
  refine g_aload_n (pc := 0) C dX6_isRing_0 (i := 0) rfl 0 rfl ?_
  refine gt_X6_owners (pc := 1) C q253 dX6_isRing_1 ?_
  refine g_iload_n (pc := 4) C dX6_isRing_4 (i := 1) rfl 1 rfl ?_
  refine al_X6_owners (pc := 5) C dX6_isRing_5 ?_
  refine g_aload_n (pc := 6) C dX6_isRing_6 (i := 0) rfl 0 rfl ?_
  refine gt_X6_owners (pc := 7) C q253 dX6_isRing_7 ?_
  refine g_iload_n (pc := 10) C dX6_isRing_10 (i := 2) rfl 2 rfl ?_
  refine al_X6_owners (pc := 11) C dX6_isRing_11 ?_
  refine g_icmp_eq (pc := 12) (tgt := 49) C dX6_isRing_12 (by decide) ?_ ?_
  · refine g_iconst (pc := 49) (v := 0) C dX6_isRing_49 (by decide) ?_
    refine g_istore (pc := 50) (i := 4) (j := 0) (lv2 := [(4, .int (0 : Int32)), (0, .ref (ad 0)), (1, .int x1), (2, .int x2), (3, .int x3)]) C dX6_isRing_50 (by decide) rfl ?_
    refine g_iload (pc := 52) C dX6_isRing_52 0 rfl ?_
    refine g_if_eq (pc := 54) (tgt := 88) C dX6_isRing_54 (by decide) ?_ ?_
    · refine g_iconst (pc := 88) (v := 0) C dX6_isRing_88 (by decide) ?_
      exact g_zretq (pc := 89) C hr (Or.inl rfl) dX6_isRing_89
    · refine g_aload_n (pc := 57) C dX6_isRing_57 (i := 0) rfl 1 rfl ?_
      refine g_iload_n (pc := 58) C dX6_isRing_58 (i := 1) rfl 2 rfl ?_
      refine g_iload_n (pc := 59) C dX6_isRing_59 (i := 2) rfl 3 rfl ?_
      refine g_callVi (pc := 60) (As := [.int _, .int _]) C q627 mw_X6_wouldRather (fun _ hz => c_X6_wouldRather C.2.2.2.2.2.2.2.1 hz) ⟨Nat.le_of_ble_eq_true rfl, Nat.le_of_ble_eq_true rfl⟩ rfl rfl 0 rfl rfl rfl (Nat.le_of_ble_eq_true rfl) dX6_isRing_60 fun r2 S1 => ?_
      refine g_if_eq (pc := 63) (tgt := 88) C dX6_isRing_63 (by decide) ?_ ?_
      · refine g_iconst (pc := 88) (v := 0) C dX6_isRing_88 (by decide) ?_
        exact g_zretq (pc := 89) C hr (Or.inl rfl) dX6_isRing_89
      · refine g_aload_n (pc := 66) C dX6_isRing_66 (i := 0) rfl 1 rfl ?_
        refine g_iload_n (pc := 67) C dX6_isRing_67 (i := 2) rfl 3 rfl ?_
        refine g_iload_n (pc := 68) C dX6_isRing_68 (i := 3) rfl 4 rfl ?_
        refine g_callVi (pc := 69) (As := [.int _, .int _]) C q627 mw_X6_wouldRather (fun _ hz => c_X6_wouldRather C.2.2.2.2.2.2.2.1 hz) ⟨Nat.le_of_ble_eq_true rfl, Nat.le_of_ble_eq_true rfl⟩ rfl rfl 0 rfl rfl rfl (Nat.le_of_ble_eq_true rfl) dX6_isRing_69 fun r4 S3 => ?_
        refine g_if_eq (pc := 72) (tgt := 88) C dX6_isRing_72 (by decide) ?_ ?_
        · refine g_iconst (pc := 88) (v := 0) C dX6_isRing_88 (by decide) ?_
          exact g_zretq (pc := 89) C hr (Or.inl rfl) dX6_isRing_89
        · refine g_aload_n (pc := 75) C dX6_isRing_75 (i := 0) rfl 1 rfl ?_
          refine g_iload_n (pc := 76) C dX6_isRing_76 (i := 3) rfl 4 rfl ?_
          refine g_iload_n (pc := 77) C dX6_isRing_77 (i := 1) rfl 2 rfl ?_
          refine g_callVi (pc := 78) (As := [.int _, .int _]) C q627 mw_X6_wouldRather (fun _ hz => c_X6_wouldRather C.2.2.2.2.2.2.2.1 hz) ⟨Nat.le_of_ble_eq_true rfl, Nat.le_of_ble_eq_true rfl⟩ rfl rfl 0 rfl rfl rfl (Nat.le_of_ble_eq_true rfl) dX6_isRing_78 fun r6 S5 => ?_
          refine g_if_eq (pc := 81) (tgt := 88) C dX6_isRing_81 (by decide) ?_ ?_
          · refine g_iconst (pc := 88) (v := 0) C dX6_isRing_88 (by decide) ?_
            exact g_zretq (pc := 89) C hr (Or.inl rfl) dX6_isRing_89
          · refine g_iconst (pc := 84) (v := 1) C dX6_isRing_84 (by decide) ?_
            refine g_goto (pc := 85) (tgt := 89) C dX6_isRing_85 (by decide) ?_
            exact g_zretq (pc := 89) C hr (Or.inr rfl) dX6_isRing_89
  · refine g_aload_n (pc := 15) C dX6_isRing_15 (i := 0) rfl 0 rfl ?_
    refine gt_X6_owners (pc := 16) C q253 dX6_isRing_16 ?_
    refine g_iload_n (pc := 19) C dX6_isRing_19 (i := 2) rfl 2 rfl ?_
    refine al_X6_owners (pc := 20) C dX6_isRing_20 ?_
    refine g_aload_n (pc := 21) C dX6_isRing_21 (i := 0) rfl 0 rfl ?_
    refine gt_X6_owners (pc := 22) C q253 dX6_isRing_22 ?_
    refine g_iload_n (pc := 25) C dX6_isRing_25 (i := 3) rfl 3 rfl ?_
    refine al_X6_owners (pc := 26) C dX6_isRing_26 ?_
    refine g_icmp_eq (pc := 27) (tgt := 49) C dX6_isRing_27 (by decide) ?_ ?_
    · refine g_iconst (pc := 49) (v := 0) C dX6_isRing_49 (by decide) ?_
      refine g_istore (pc := 50) (i := 4) (j := 0) (lv2 := [(4, .int (0 : Int32)), (0, .ref (ad 0)), (1, .int x1), (2, .int x2), (3, .int x3)]) C dX6_isRing_50 (by decide) rfl ?_
      refine g_iload (pc := 52) C dX6_isRing_52 0 rfl ?_
      refine g_if_eq (pc := 54) (tgt := 88) C dX6_isRing_54 (by decide) ?_ ?_
      · refine g_iconst (pc := 88) (v := 0) C dX6_isRing_88 (by decide) ?_
        exact g_zretq (pc := 89) C hr (Or.inl rfl) dX6_isRing_89
      · refine g_aload_n (pc := 57) C dX6_isRing_57 (i := 0) rfl 1 rfl ?_
        refine g_iload_n (pc := 58) C dX6_isRing_58 (i := 1) rfl 2 rfl ?_
        refine g_iload_n (pc := 59) C dX6_isRing_59 (i := 2) rfl 3 rfl ?_
        refine g_callVi (pc := 60) (As := [.int _, .int _]) C q627 mw_X6_wouldRather (fun _ hz => c_X6_wouldRather C.2.2.2.2.2.2.2.1 hz) ⟨Nat.le_of_ble_eq_true rfl, Nat.le_of_ble_eq_true rfl⟩ rfl rfl 0 rfl rfl rfl (Nat.le_of_ble_eq_true rfl) dX6_isRing_60 fun r8 S7 => ?_
        refine g_if_eq (pc := 63) (tgt := 88) C dX6_isRing_63 (by decide) ?_ ?_
        · refine g_iconst (pc := 88) (v := 0) C dX6_isRing_88 (by decide) ?_
          exact g_zretq (pc := 89) C hr (Or.inl rfl) dX6_isRing_89
        · refine g_aload_n (pc := 66) C dX6_isRing_66 (i := 0) rfl 1 rfl ?_
          refine g_iload_n (pc := 67) C dX6_isRing_67 (i := 2) rfl 3 rfl ?_
          refine g_iload_n (pc := 68) C dX6_isRing_68 (i := 3) rfl 4 rfl ?_
          refine g_callVi (pc := 69) (As := [.int _, .int _]) C q627 mw_X6_wouldRather (fun _ hz => c_X6_wouldRather C.2.2.2.2.2.2.2.1 hz) ⟨Nat.le_of_ble_eq_true rfl, Nat.le_of_ble_eq_true rfl⟩ rfl rfl 0 rfl rfl rfl (Nat.le_of_ble_eq_true rfl) dX6_isRing_69 fun r10 S9 => ?_
          refine g_if_eq (pc := 72) (tgt := 88) C dX6_isRing_72 (by decide) ?_ ?_
          · refine g_iconst (pc := 88) (v := 0) C dX6_isRing_88 (by decide) ?_
            exact g_zretq (pc := 89) C hr (Or.inl rfl) dX6_isRing_89
          · refine g_aload_n (pc := 75) C dX6_isRing_75 (i := 0) rfl 1 rfl ?_
            refine g_iload_n (pc := 76) C dX6_isRing_76 (i := 3) rfl 4 rfl ?_
            refine g_iload_n (pc := 77) C dX6_isRing_77 (i := 1) rfl 2 rfl ?_
            refine g_callVi (pc := 78) (As := [.int _, .int _]) C q627 mw_X6_wouldRather (fun _ hz => c_X6_wouldRather C.2.2.2.2.2.2.2.1 hz) ⟨Nat.le_of_ble_eq_true rfl, Nat.le_of_ble_eq_true rfl⟩ rfl rfl 0 rfl rfl rfl (Nat.le_of_ble_eq_true rfl) dX6_isRing_78 fun r12 S11 => ?_
            refine g_if_eq (pc := 81) (tgt := 88) C dX6_isRing_81 (by decide) ?_ ?_
            · refine g_iconst (pc := 88) (v := 0) C dX6_isRing_88 (by decide) ?_
              exact g_zretq (pc := 89) C hr (Or.inl rfl) dX6_isRing_89
            · refine g_iconst (pc := 84) (v := 1) C dX6_isRing_84 (by decide) ?_
              refine g_goto (pc := 85) (tgt := 89) C dX6_isRing_85 (by decide) ?_
              exact g_zretq (pc := 89) C hr (Or.inr rfl) dX6_isRing_89
    · refine g_aload_n (pc := 30) C dX6_isRing_30 (i := 0) rfl 0 rfl ?_
      refine gt_X6_owners (pc := 31) C q253 dX6_isRing_31 ?_
      refine g_iload_n (pc := 34) C dX6_isRing_34 (i := 3) rfl 3 rfl ?_
      refine al_X6_owners (pc := 35) C dX6_isRing_35 ?_
      refine g_aload_n (pc := 36) C dX6_isRing_36 (i := 0) rfl 0 rfl ?_
      refine gt_X6_owners (pc := 37) C q253 dX6_isRing_37 ?_
      refine g_iload_n (pc := 40) C dX6_isRing_40 (i := 1) rfl 1 rfl ?_
      refine al_X6_owners (pc := 41) C dX6_isRing_41 ?_
      refine g_icmp_eq (pc := 42) (tgt := 49) C dX6_isRing_42 (by decide) ?_ ?_
      · refine g_iconst (pc := 49) (v := 0) C dX6_isRing_49 (by decide) ?_
        refine g_istore (pc := 50) (i := 4) (j := 0) (lv2 := [(4, .int (0 : Int32)), (0, .ref (ad 0)), (1, .int x1), (2, .int x2), (3, .int x3)]) C dX6_isRing_50 (by decide) rfl ?_
        refine g_iload (pc := 52) C dX6_isRing_52 0 rfl ?_
        refine g_if_eq (pc := 54) (tgt := 88) C dX6_isRing_54 (by decide) ?_ ?_
        · refine g_iconst (pc := 88) (v := 0) C dX6_isRing_88 (by decide) ?_
          exact g_zretq (pc := 89) C hr (Or.inl rfl) dX6_isRing_89
        · refine g_aload_n (pc := 57) C dX6_isRing_57 (i := 0) rfl 1 rfl ?_
          refine g_iload_n (pc := 58) C dX6_isRing_58 (i := 1) rfl 2 rfl ?_
          refine g_iload_n (pc := 59) C dX6_isRing_59 (i := 2) rfl 3 rfl ?_
          refine g_callVi (pc := 60) (As := [.int _, .int _]) C q627 mw_X6_wouldRather (fun _ hz => c_X6_wouldRather C.2.2.2.2.2.2.2.1 hz) ⟨Nat.le_of_ble_eq_true rfl, Nat.le_of_ble_eq_true rfl⟩ rfl rfl 0 rfl rfl rfl (Nat.le_of_ble_eq_true rfl) dX6_isRing_60 fun r14 S13 => ?_
          refine g_if_eq (pc := 63) (tgt := 88) C dX6_isRing_63 (by decide) ?_ ?_
          · refine g_iconst (pc := 88) (v := 0) C dX6_isRing_88 (by decide) ?_
            exact g_zretq (pc := 89) C hr (Or.inl rfl) dX6_isRing_89
          · refine g_aload_n (pc := 66) C dX6_isRing_66 (i := 0) rfl 1 rfl ?_
            refine g_iload_n (pc := 67) C dX6_isRing_67 (i := 2) rfl 3 rfl ?_
            refine g_iload_n (pc := 68) C dX6_isRing_68 (i := 3) rfl 4 rfl ?_
            refine g_callVi (pc := 69) (As := [.int _, .int _]) C q627 mw_X6_wouldRather (fun _ hz => c_X6_wouldRather C.2.2.2.2.2.2.2.1 hz) ⟨Nat.le_of_ble_eq_true rfl, Nat.le_of_ble_eq_true rfl⟩ rfl rfl 0 rfl rfl rfl (Nat.le_of_ble_eq_true rfl) dX6_isRing_69 fun r16 S15 => ?_
            refine g_if_eq (pc := 72) (tgt := 88) C dX6_isRing_72 (by decide) ?_ ?_
            · refine g_iconst (pc := 88) (v := 0) C dX6_isRing_88 (by decide) ?_
              exact g_zretq (pc := 89) C hr (Or.inl rfl) dX6_isRing_89
            · refine g_aload_n (pc := 75) C dX6_isRing_75 (i := 0) rfl 1 rfl ?_
              refine g_iload_n (pc := 76) C dX6_isRing_76 (i := 3) rfl 4 rfl ?_
              refine g_iload_n (pc := 77) C dX6_isRing_77 (i := 1) rfl 2 rfl ?_
              refine g_callVi (pc := 78) (As := [.int _, .int _]) C q627 mw_X6_wouldRather (fun _ hz => c_X6_wouldRather C.2.2.2.2.2.2.2.1 hz) ⟨Nat.le_of_ble_eq_true rfl, Nat.le_of_ble_eq_true rfl⟩ rfl rfl 0 rfl rfl rfl (Nat.le_of_ble_eq_true rfl) dX6_isRing_78 fun r18 S17 => ?_
              refine g_if_eq (pc := 81) (tgt := 88) C dX6_isRing_81 (by decide) ?_ ?_
              · refine g_iconst (pc := 88) (v := 0) C dX6_isRing_88 (by decide) ?_
                exact g_zretq (pc := 89) C hr (Or.inl rfl) dX6_isRing_89
              · refine g_iconst (pc := 84) (v := 1) C dX6_isRing_84 (by decide) ?_
                refine g_goto (pc := 85) (tgt := 89) C dX6_isRing_85 (by decide) ?_
                exact g_zretq (pc := 89) C hr (Or.inr rfl) dX6_isRing_89
      · refine g_iconst (pc := 45) (v := 1) C dX6_isRing_45 (by decide) ?_
        refine g_goto (pc := 46) (tgt := 50) C dX6_isRing_46 (by decide) ?_
        refine g_istore (pc := 50) (i := 4) (j := 0) (lv2 := [(4, .int (1 : Int32)), (0, .ref (ad 0)), (1, .int x1), (2, .int x2), (3, .int x3)]) C dX6_isRing_50 (by decide) rfl ?_
        refine g_iload (pc := 52) C dX6_isRing_52 0 rfl ?_
        refine g_if_eq (pc := 54) (tgt := 88) C dX6_isRing_54 (by decide) ?_ ?_
        · refine g_iconst (pc := 88) (v := 0) C dX6_isRing_88 (by decide) ?_
          exact g_zretq (pc := 89) C hr (Or.inl rfl) dX6_isRing_89
        · refine g_aload_n (pc := 57) C dX6_isRing_57 (i := 0) rfl 1 rfl ?_
          refine g_iload_n (pc := 58) C dX6_isRing_58 (i := 1) rfl 2 rfl ?_
          refine g_iload_n (pc := 59) C dX6_isRing_59 (i := 2) rfl 3 rfl ?_
          refine g_callVi (pc := 60) (As := [.int _, .int _]) C q627 mw_X6_wouldRather (fun _ hz => c_X6_wouldRather C.2.2.2.2.2.2.2.1 hz) ⟨Nat.le_of_ble_eq_true rfl, Nat.le_of_ble_eq_true rfl⟩ rfl rfl 0 rfl rfl rfl (Nat.le_of_ble_eq_true rfl) dX6_isRing_60 fun r20 S19 => ?_
          refine g_if_eq (pc := 63) (tgt := 88) C dX6_isRing_63 (by decide) ?_ ?_
          · refine g_iconst (pc := 88) (v := 0) C dX6_isRing_88 (by decide) ?_
            exact g_zretq (pc := 89) C hr (Or.inl rfl) dX6_isRing_89
          · refine g_aload_n (pc := 66) C dX6_isRing_66 (i := 0) rfl 1 rfl ?_
            refine g_iload_n (pc := 67) C dX6_isRing_67 (i := 2) rfl 3 rfl ?_
            refine g_iload_n (pc := 68) C dX6_isRing_68 (i := 3) rfl 4 rfl ?_
            refine g_callVi (pc := 69) (As := [.int _, .int _]) C q627 mw_X6_wouldRather (fun _ hz => c_X6_wouldRather C.2.2.2.2.2.2.2.1 hz) ⟨Nat.le_of_ble_eq_true rfl, Nat.le_of_ble_eq_true rfl⟩ rfl rfl 0 rfl rfl rfl (Nat.le_of_ble_eq_true rfl) dX6_isRing_69 fun r22 S21 => ?_
            refine g_if_eq (pc := 72) (tgt := 88) C dX6_isRing_72 (by decide) ?_ ?_
            · refine g_iconst (pc := 88) (v := 0) C dX6_isRing_88 (by decide) ?_
              exact g_zretq (pc := 89) C hr (Or.inl rfl) dX6_isRing_89
            · refine g_aload_n (pc := 75) C dX6_isRing_75 (i := 0) rfl 1 rfl ?_
              refine g_iload_n (pc := 76) C dX6_isRing_76 (i := 3) rfl 4 rfl ?_
              refine g_iload_n (pc := 77) C dX6_isRing_77 (i := 1) rfl 2 rfl ?_
              refine g_callVi (pc := 78) (As := [.int _, .int _]) C q627 mw_X6_wouldRather (fun _ hz => c_X6_wouldRather C.2.2.2.2.2.2.2.1 hz) ⟨Nat.le_of_ble_eq_true rfl, Nat.le_of_ble_eq_true rfl⟩ rfl rfl 0 rfl rfl rfl (Nat.le_of_ble_eq_true rfl) dX6_isRing_78 fun r24 S23 => ?_
              refine g_if_eq (pc := 81) (tgt := 88) C dX6_isRing_81 (by decide) ?_ ?_
              · refine g_iconst (pc := 88) (v := 0) C dX6_isRing_88 (by decide) ?_
                exact g_zretq (pc := 89) C hr (Or.inl rfl) dX6_isRing_89
              · refine g_iconst (pc := 84) (v := 1) C dX6_isRing_84 (by decide) ?_
                refine g_goto (pc := 85) (tgt := 89) C dX6_isRing_85 (by decide) ?_
                exact g_zretq (pc := 89) C hr (Or.inr rfl) dX6_isRing_89
noncomputable def b_X6_countRings_35 (x2 : Int32) (x3 : Int32) (k : Int32 → St → Option (Int32 × St)) (rec : Int32 → Int32 → St → Option (Int32 × St)) (x1 : Int32) (x4 : Int32) (S : St) : Option (Int32 × St) :=
bnd (m_X1_cells S) fun r8 S7 =>
if x4 < r8 then (
bnd (m_X6_isRing x2 x3 x4 S7) fun r10 S9 =>
if r10 = 0 then (
rec x1 (x4 + 1) S9)
else
rec (x1 + 1) (x4 + 1) S9)
else
k x1 S7
noncomputable def b_X6_countRings_19 (x2 : Int32) (k : Int32 → St → Option (Int32 × St)) (rec : Int32 → Int32 → St → Option (Int32 × St)) (x1 : Int32) (x3 : Int32) (S : St) : Option (Int32 × St) :=
bnd (m_X1_cells S) fun r5 S4 =>
if x3 < r5 then (
nm ((x2 + (1 : Int32))) fun y6 =>
it2 (b_X6_countRings_35 x2 x3 (fun x1_S11 S11 =>
rec x1_S11 (x3 + 1) S11)) 5000 x1 y6 S4)
else
k x1 S4
noncomputable def b_X6_countRings_4 (k : Int32 → St → Option (Int32 × St)) (rec : Int32 → Int32 → St → Option (Int32 × St)) (x1 : Int32) (x2 : Int32) (S : St) : Option (Int32 × St) :=
bnd (m_X1_cells S) fun r2 S1 =>
if x2 < r2 then (
nm ((x2 + (1 : Int32))) fun y3 =>
it2 (b_X6_countRings_19 x2 (fun x1_S12 S12 =>
rec x1_S12 (x2 + 1) S12)) 5000 x1 y3 S1)
else
k x1 S1
noncomputable def m_X6_countRings (S : St) : Option (Int32 × St) :=
it2 (b_X6_countRings_4 (fun x1_S13 S13 =>
some (x1_S13, S13))) 5000 (0 : Int32) (0 : Int32) S
set_option maxRecDepth 20000 in
theorem u_X6_countRings_35 (C : Cx p s m args meth c cX6_countRings 5 RX6 D (tyX cI cJ cZ) ad n (wX ad cI cJ cZ)) (hr : meth.sig.returnType = (some .int)) (x2 : Int32) (x3 : Int32) (k : Int32 → St → Option (Int32 × St)) (hk : ∀ (x1 : Int32) (S : St), GM p l e ({ frames := 4, cells := 0, slots := 0, locals := 92 } : Room) s m args below meth c D ad n (wX ad cI cJ cZ) 5 (QI D (wX ad cI cJ cZ) ad n args s below) (k x1 S) S 67 [(0, .ref (ad 0)), (1, .int x1), (2, .int x2), (3, .int x3)] []) (rec : Int32 → Int32 → St → Option (Int32 × St)) (hrec : ∀ (x1 : Int32) (x4 : Int32) (S : St), GM p l e ({ frames := 4, cells := 0, slots := 0, locals := 92 } : Room) s m args below meth c D ad n (wX ad cI cJ cZ) 5 (QI D (wX ad cI cJ cZ) ad n args s below) (rec x1 x4 S) S 35 [(0, .ref (ad 0)), (1, .int x1), (2, .int x2), (3, .int x3), (4, .int x4)] []) (x1 : Int32) (x4 : Int32) (S : St) : GM p l e ({ frames := 4, cells := 0, slots := 0, locals := 92 } : Room) s m args below meth c D ad n (wX ad cI cJ cZ) 5 (QI D (wX ad cI cJ cZ) ad n args s below) (b_X6_countRings_35 x2 x3 k rec x1 x4 S) S 35 [(0, .ref (ad 0)), (1, .int x1), (2, .int x2), (3, .int x3), (4, .int x4)] [] := by
  unfold b_X6_countRings_35
  refine g_iload (pc := 35) C dX6_countRings_35 4 rfl ?_
  refine g_aload_n (pc := 37) C dX6_countRings_37 (i := 0) rfl 0 rfl ?_
  refine gt_X6_ground (pc := 38) C q248 dX6_countRings_38 ?_
  refine g_callVi (pc := 41) (As := []) C q399 mw_X1_cells (fun _ hz => c_X1_cells C.2.2.2.2.2.2.2.1 hz) ⟨Nat.le_of_ble_eq_true rfl, Nat.le_of_ble_eq_true rfl⟩ rfl rfl 2 rfl rfl rfl (Nat.le_of_ble_eq_true rfl) dX6_countRings_41 fun r8 S7 => ?_
  refine g_icmp_ge (pc := 44) (tgt := 67) C dX6_countRings_44 (by decide) ?_ ?_
  · refine g_sub [0, 1, 2, 3] rfl (hk _ _)
  · refine g_aload_n (pc := 47) C dX6_countRings_47 (i := 0) rfl 0 rfl ?_
    refine g_iload_n (pc := 48) C dX6_countRings_48 (i := 2) rfl 2 rfl ?_
    refine g_iload_n (pc := 49) C dX6_countRings_49 (i := 3) rfl 3 rfl ?_
    refine g_iload (pc := 50) C dX6_countRings_50 4 rfl ?_
    refine g_callVi (pc := 52) (As := [.int _, .int _, .int _]) C q643 mw_X6_isRing (fun _ hz => c_X6_isRing C.2.2.2.2.2.2.2.1 hz) ⟨Nat.le_of_ble_eq_true rfl, Nat.le_of_ble_eq_true rfl⟩ rfl rfl 0 rfl rfl rfl (Nat.le_of_ble_eq_true rfl) dX6_countRings_52 fun r10 S9 => ?_
    refine g_if_eq (pc := 55) (tgt := 61) C dX6_countRings_55 (by decide) ?_ ?_
    · refine g_iinc (pc := 61) (v := (x4 + 1)) (lv2 := [(4, .int (x4 + 1)), (0, .ref (ad 0)), (1, .int x1), (2, .int x2), (3, .int x3)]) C dX6_countRings_61 4 rfl rfl (by decide) rfl ?_
      refine g_goto (pc := 64) (tgt := 35) C dX6_countRings_64 (by decide) ?_
      refine g_sub [1, 2, 3, 4, 0] rfl (hrec _ _ _)
    · refine g_iinc (pc := 58) (v := (x1 + 1)) (lv2 := [(1, .int (x1 + 1)), (0, .ref (ad 0)), (2, .int x2), (3, .int x3), (4, .int x4)]) C dX6_countRings_58 1 rfl rfl (by decide) rfl ?_
      refine g_iinc (pc := 61) (v := (x4 + 1)) (lv2 := [(4, .int (x4 + 1)), (1, .int (x1 + 1)), (0, .ref (ad 0)), (2, .int x2), (3, .int x3)]) C dX6_countRings_61 4 rfl rfl (by decide) rfl ?_
      refine g_goto (pc := 64) (tgt := 35) C dX6_countRings_64 (by decide) ?_
      refine g_sub [2, 1, 3, 4, 0] rfl (hrec _ _ _)
set_option maxRecDepth 20000 in
theorem u_X6_countRings_19 (C : Cx p s m args meth c cX6_countRings 5 RX6 D (tyX cI cJ cZ) ad n (wX ad cI cJ cZ)) (hr : meth.sig.returnType = (some .int)) (x2 : Int32) (k : Int32 → St → Option (Int32 × St)) (hk : ∀ (x1 : Int32) (S : St), GM p l e ({ frames := 4, cells := 0, slots := 0, locals := 92 } : Room) s m args below meth c D ad n (wX ad cI cJ cZ) 5 (QI D (wX ad cI cJ cZ) ad n args s below) (k x1 S) S 73 [(0, .ref (ad 0)), (1, .int x1), (2, .int x2)] []) (rec : Int32 → Int32 → St → Option (Int32 × St)) (hrec : ∀ (x1 : Int32) (x3 : Int32) (S : St), GM p l e ({ frames := 4, cells := 0, slots := 0, locals := 92 } : Room) s m args below meth c D ad n (wX ad cI cJ cZ) 5 (QI D (wX ad cI cJ cZ) ad n args s below) (rec x1 x3 S) S 19 [(0, .ref (ad 0)), (1, .int x1), (2, .int x2), (3, .int x3)] []) (x1 : Int32) (x3 : Int32) (S : St) : GM p l e ({ frames := 4, cells := 0, slots := 0, locals := 92 } : Room) s m args below meth c D ad n (wX ad cI cJ cZ) 5 (QI D (wX ad cI cJ cZ) ad n args s below) (b_X6_countRings_19 x2 k rec x1 x3 S) S 19 [(0, .ref (ad 0)), (1, .int x1), (2, .int x2), (3, .int x3)] [] := by
  unfold b_X6_countRings_19
  refine g_iload_n (pc := 19) C dX6_countRings_19 (i := 3) rfl 3 rfl ?_
  refine g_aload_n (pc := 20) C dX6_countRings_20 (i := 0) rfl 0 rfl ?_
  refine gt_X6_ground (pc := 21) C q248 dX6_countRings_21 ?_
  refine g_callVi (pc := 24) (As := []) C q399 mw_X1_cells (fun _ hz => c_X1_cells C.2.2.2.2.2.2.2.1 hz) ⟨Nat.le_of_ble_eq_true rfl, Nat.le_of_ble_eq_true rfl⟩ rfl rfl 2 rfl rfl rfl (Nat.le_of_ble_eq_true rfl) dX6_countRings_24 fun r5 S4 => ?_
  refine g_icmp_ge (pc := 27) (tgt := 73) C dX6_countRings_27 (by decide) ?_ ?_
  · refine g_sub [0, 1, 2] rfl (hk _ _)
  · refine g_iload_n (pc := 30) C dX6_countRings_30 (i := 2) rfl 2 rfl ?_
    refine g_iconst (pc := 31) (v := 1) C dX6_countRings_31 (by decide) ?_
    refine g_iadd (pc := 32) C dX6_countRings_32 ?_
    refine g_nmi fun y6 => ?_
    refine g_istore (pc := 33) (i := 4) (j := 0) (lv2 := [(4, .int y6), (0, .ref (ad 0)), (1, .int x1), (2, .int x2), (3, .int x3)]) C dX6_countRings_33 (by decide) rfl ?_
    refine g_sub [1, 2, 3, 4, 0] (lv2 := [(0, .ref (ad 0)), (1, .int x1), (2, .int x2), (3, .int x3), (4, .int y6)]) rfl ?_
    refine g_it2 (pc := 35) (u_X6_countRings_35 C hr _ _ _ fun x1_S11 S11 => ?_) _ _ _ _
    refine g_iinc (pc := 67) (v := (x3 + 1)) (lv2 := [(3, .int (x3 + 1)), (0, .ref (ad 0)), (1, .int x1_S11), (2, .int x2)]) C dX6_countRings_67 3 rfl rfl (by decide) rfl ?_
    refine g_goto (pc := 70) (tgt := 19) C dX6_countRings_70 (by decide) ?_
    refine g_sub [1, 2, 3, 0] rfl (hrec _ _ _)
set_option maxRecDepth 20000 in
theorem u_X6_countRings_4 (C : Cx p s m args meth c cX6_countRings 5 RX6 D (tyX cI cJ cZ) ad n (wX ad cI cJ cZ)) (hr : meth.sig.returnType = (some .int)) (k : Int32 → St → Option (Int32 × St)) (hk : ∀ (x1 : Int32) (S : St), GM p l e ({ frames := 4, cells := 0, slots := 0, locals := 92 } : Room) s m args below meth c D ad n (wX ad cI cJ cZ) 5 (QI D (wX ad cI cJ cZ) ad n args s below) (k x1 S) S 79 [(1, .int x1)] []) (rec : Int32 → Int32 → St → Option (Int32 × St)) (hrec : ∀ (x1 : Int32) (x2 : Int32) (S : St), GM p l e ({ frames := 4, cells := 0, slots := 0, locals := 92 } : Room) s m args below meth c D ad n (wX ad cI cJ cZ) 5 (QI D (wX ad cI cJ cZ) ad n args s below) (rec x1 x2 S) S 4 [(0, .ref (ad 0)), (1, .int x1), (2, .int x2)] []) (x1 : Int32) (x2 : Int32) (S : St) : GM p l e ({ frames := 4, cells := 0, slots := 0, locals := 92 } : Room) s m args below meth c D ad n (wX ad cI cJ cZ) 5 (QI D (wX ad cI cJ cZ) ad n args s below) (b_X6_countRings_4 k rec x1 x2 S) S 4 [(0, .ref (ad 0)), (1, .int x1), (2, .int x2)] [] := by
  unfold b_X6_countRings_4
  refine g_iload_n (pc := 4) C dX6_countRings_4 (i := 2) rfl 2 rfl ?_
  refine g_aload_n (pc := 5) C dX6_countRings_5 (i := 0) rfl 0 rfl ?_
  refine gt_X6_ground (pc := 6) C q248 dX6_countRings_6 ?_
  refine g_callVi (pc := 9) (As := []) C q399 mw_X1_cells (fun _ hz => c_X1_cells C.2.2.2.2.2.2.2.1 hz) ⟨Nat.le_of_ble_eq_true rfl, Nat.le_of_ble_eq_true rfl⟩ rfl rfl 2 rfl rfl rfl (Nat.le_of_ble_eq_true rfl) dX6_countRings_9 fun r2 S1 => ?_
  refine g_icmp_ge (pc := 12) (tgt := 79) C dX6_countRings_12 (by decide) ?_ ?_
  · refine g_sub [1] rfl (hk _ _)
  · refine g_iload_n (pc := 15) C dX6_countRings_15 (i := 2) rfl 2 rfl ?_
    refine g_iconst (pc := 16) (v := 1) C dX6_countRings_16 (by decide) ?_
    refine g_iadd (pc := 17) C dX6_countRings_17 ?_
    refine g_nmi fun y3 => ?_
    refine g_istore_n (pc := 18) (i := 3) (lv2 := [(3, .int y3), (0, .ref (ad 0)), (1, .int x1), (2, .int x2)]) C dX6_countRings_18 rfl (by decide) rfl ?_
    refine g_sub [1, 2, 3, 0] (lv2 := [(0, .ref (ad 0)), (1, .int x1), (2, .int x2), (3, .int y3)]) rfl ?_
    refine g_it2 (pc := 19) (u_X6_countRings_19 C hr _ _ fun x1_S12 S12 => ?_) _ _ _ _
    refine g_iinc (pc := 73) (v := (x2 + 1)) (lv2 := [(2, .int (x2 + 1)), (0, .ref (ad 0)), (1, .int x1_S12)]) C dX6_countRings_73 2 rfl rfl (by decide) rfl ?_
    refine g_goto (pc := 76) (tgt := 4) C dX6_countRings_76 (by decide) ?_
    refine g_sub [1, 2, 0] rfl (hrec _ _ _)
set_option maxRecDepth 20000 in
theorem c_X6_countRings {l : Launch} {D : va_G} {ad : Nat → Nat} {cI cJ cZ : ClassId} {n : Nat} (hD : ∀ sz S, va_D (Adr ad n sz) (wX ad cI cJ cZ S)) {S : St} {z : Int32 × St} (hf : m_X6_countRings S = some z) : CtI l yX6_countRings cX6_countRings 5 (some .int) ({ frames := 4, cells := 0, slots := 0, locals := 92 } : Room) D (wX ad cI cJ cZ) (tyX cI cJ cZ) ad n [.ref (ad 0)] S z := by
  refine CtI.of hf (by decide +kernel) (Nat.le_of_ble_eq_true rfl) hD (fun p e s m args below meth c C hr => ?_)
  refine g_sub [0] (lv2 := [(0, .ref (ad 0))]) rfl ?_
  unfold m_X6_countRings
  refine g_iconst (pc := 0) (v := 0) C dX6_countRings_0 (by decide) ?_
  refine g_istore_n (pc := 1) (i := 1) (lv2 := [(1, .int (0 : Int32)), (0, .ref (ad 0))]) C dX6_countRings_1 rfl (by decide) rfl ?_
  refine g_iconst (pc := 2) (v := 0) C dX6_countRings_2 (by decide) ?_
  refine g_istore_n (pc := 3) (i := 2) (lv2 := [(2, .int (0 : Int32)), (1, .int (0 : Int32)), (0, .ref (ad 0))]) C dX6_countRings_3 rfl (by decide) rfl ?_
  refine g_sub [2, 1, 0] (lv2 := [(0, .ref (ad 0)), (1, .int (0 : Int32)), (2, .int (0 : Int32))]) rfl ?_
  refine g_it2 (pc := 4) (u_X6_countRings_4 C hr _ fun x1_S13 S13 => ?_) _ _ _ _
  refine g_iload_n (pc := 79) C dX6_countRings_79 (i := 1) rfl 0 rfl ?_
  exact g_iret (pc := 80) C hr dX6_countRings_80
noncomputable def b_X6_countPairs_19 (x2 : Int32) (k : Int32 → St → Option (Int32 × St)) (rec : Int32 → Int32 → St → Option (Int32 × St)) (x1 : Int32) (x3 : Int32) (S : St) : Option (Int32 × St) :=
bnd (m_X1_cells S) fun r5 S4 =>
if x3 < r5 then (
bnd (m_X6_wouldSwap x2 x3 S4) fun r7 S6 =>
if r7 = 0 then (
rec x1 (x3 + 1) S6)
else
rec (x1 + 1) (x3 + 1) S6)
else
k x1 S4
noncomputable def b_X6_countPairs_4 (k : Int32 → St → Option (Int32 × St)) (rec : Int32 → Int32 → St → Option (Int32 × St)) (x1 : Int32) (x2 : Int32) (S : St) : Option (Int32 × St) :=
bnd (m_X1_cells S) fun r2 S1 =>
if x2 < r2 then (
nm ((x2 + (1 : Int32))) fun y3 =>
it2 (b_X6_countPairs_19 x2 (fun x1_S8 S8 =>
rec x1_S8 (x2 + 1) S8)) 5000 x1 y3 S1)
else
k x1 S1
noncomputable def m_X6_countPairs (S : St) : Option (Int32 × St) :=
it2 (b_X6_countPairs_4 (fun x1_S9 S9 =>
some (x1_S9, S9))) 5000 (0 : Int32) (0 : Int32) S
set_option maxRecDepth 20000 in
theorem u_X6_countPairs_19 (C : Cx p s m args meth c cX6_countPairs 4 RX6 D (tyX cI cJ cZ) ad n (wX ad cI cJ cZ)) (hr : meth.sig.returnType = (some .int)) (x2 : Int32) (k : Int32 → St → Option (Int32 × St)) (hk : ∀ (x1 : Int32) (S : St), GM p l e ({ frames := 4, cells := 0, slots := 0, locals := 90 } : Room) s m args below meth c D ad n (wX ad cI cJ cZ) 4 (QI D (wX ad cI cJ cZ) ad n args s below) (k x1 S) S 48 [(0, .ref (ad 0)), (1, .int x1), (2, .int x2)] []) (rec : Int32 → Int32 → St → Option (Int32 × St)) (hrec : ∀ (x1 : Int32) (x3 : Int32) (S : St), GM p l e ({ frames := 4, cells := 0, slots := 0, locals := 90 } : Room) s m args below meth c D ad n (wX ad cI cJ cZ) 4 (QI D (wX ad cI cJ cZ) ad n args s below) (rec x1 x3 S) S 19 [(0, .ref (ad 0)), (1, .int x1), (2, .int x2), (3, .int x3)] []) (x1 : Int32) (x3 : Int32) (S : St) : GM p l e ({ frames := 4, cells := 0, slots := 0, locals := 90 } : Room) s m args below meth c D ad n (wX ad cI cJ cZ) 4 (QI D (wX ad cI cJ cZ) ad n args s below) (b_X6_countPairs_19 x2 k rec x1 x3 S) S 19 [(0, .ref (ad 0)), (1, .int x1), (2, .int x2), (3, .int x3)] [] := by
  unfold b_X6_countPairs_19
  refine g_iload_n (pc := 19) C dX6_countPairs_19 (i := 3) rfl 3 rfl ?_
  refine g_aload_n (pc := 20) C dX6_countPairs_20 (i := 0) rfl 0 rfl ?_
  refine gt_X6_ground (pc := 21) C q248 dX6_countPairs_21 ?_
  refine g_callVi (pc := 24) (As := []) C q399 mw_X1_cells (fun _ hz => c_X1_cells C.2.2.2.2.2.2.2.1 hz) ⟨Nat.le_of_ble_eq_true rfl, Nat.le_of_ble_eq_true rfl⟩ rfl rfl 2 rfl rfl rfl (Nat.le_of_ble_eq_true rfl) dX6_countPairs_24 fun r5 S4 => ?_
  refine g_icmp_ge (pc := 27) (tgt := 48) C dX6_countPairs_27 (by decide) ?_ ?_
  · refine g_sub [0, 1, 2] rfl (hk _ _)
  · refine g_aload_n (pc := 30) C dX6_countPairs_30 (i := 0) rfl 0 rfl ?_
    refine g_iload_n (pc := 31) C dX6_countPairs_31 (i := 2) rfl 2 rfl ?_
    refine g_iload_n (pc := 32) C dX6_countPairs_32 (i := 3) rfl 3 rfl ?_
    refine g_callVi (pc := 33) (As := [.int _, .int _]) C q623 mw_X6_wouldSwap (fun _ hz => c_X6_wouldSwap C.2.2.2.2.2.2.2.1 hz) ⟨Nat.le_of_ble_eq_true rfl, Nat.le_of_ble_eq_true rfl⟩ rfl rfl 0 rfl rfl rfl (Nat.le_of_ble_eq_true rfl) dX6_countPairs_33 fun r7 S6 => ?_
    refine g_if_eq (pc := 36) (tgt := 42) C dX6_countPairs_36 (by decide) ?_ ?_
    · refine g_iinc (pc := 42) (v := (x3 + 1)) (lv2 := [(3, .int (x3 + 1)), (0, .ref (ad 0)), (1, .int x1), (2, .int x2)]) C dX6_countPairs_42 3 rfl rfl (by decide) rfl ?_
      refine g_goto (pc := 45) (tgt := 19) C dX6_countPairs_45 (by decide) ?_
      refine g_sub [1, 2, 3, 0] rfl (hrec _ _ _)
    · refine g_iinc (pc := 39) (v := (x1 + 1)) (lv2 := [(1, .int (x1 + 1)), (0, .ref (ad 0)), (2, .int x2), (3, .int x3)]) C dX6_countPairs_39 1 rfl rfl (by decide) rfl ?_
      refine g_iinc (pc := 42) (v := (x3 + 1)) (lv2 := [(3, .int (x3 + 1)), (1, .int (x1 + 1)), (0, .ref (ad 0)), (2, .int x2)]) C dX6_countPairs_42 3 rfl rfl (by decide) rfl ?_
      refine g_goto (pc := 45) (tgt := 19) C dX6_countPairs_45 (by decide) ?_
      refine g_sub [2, 1, 3, 0] rfl (hrec _ _ _)
set_option maxRecDepth 20000 in
theorem u_X6_countPairs_4 (C : Cx p s m args meth c cX6_countPairs 4 RX6 D (tyX cI cJ cZ) ad n (wX ad cI cJ cZ)) (hr : meth.sig.returnType = (some .int)) (k : Int32 → St → Option (Int32 × St)) (hk : ∀ (x1 : Int32) (S : St), GM p l e ({ frames := 4, cells := 0, slots := 0, locals := 90 } : Room) s m args below meth c D ad n (wX ad cI cJ cZ) 4 (QI D (wX ad cI cJ cZ) ad n args s below) (k x1 S) S 54 [(1, .int x1)] []) (rec : Int32 → Int32 → St → Option (Int32 × St)) (hrec : ∀ (x1 : Int32) (x2 : Int32) (S : St), GM p l e ({ frames := 4, cells := 0, slots := 0, locals := 90 } : Room) s m args below meth c D ad n (wX ad cI cJ cZ) 4 (QI D (wX ad cI cJ cZ) ad n args s below) (rec x1 x2 S) S 4 [(0, .ref (ad 0)), (1, .int x1), (2, .int x2)] []) (x1 : Int32) (x2 : Int32) (S : St) : GM p l e ({ frames := 4, cells := 0, slots := 0, locals := 90 } : Room) s m args below meth c D ad n (wX ad cI cJ cZ) 4 (QI D (wX ad cI cJ cZ) ad n args s below) (b_X6_countPairs_4 k rec x1 x2 S) S 4 [(0, .ref (ad 0)), (1, .int x1), (2, .int x2)] [] := by
  unfold b_X6_countPairs_4
  refine g_iload_n (pc := 4) C dX6_countPairs_4 (i := 2) rfl 2 rfl ?_
  refine g_aload_n (pc := 5) C dX6_countPairs_5 (i := 0) rfl 0 rfl ?_
  refine gt_X6_ground (pc := 6) C q248 dX6_countPairs_6 ?_
  refine g_callVi (pc := 9) (As := []) C q399 mw_X1_cells (fun _ hz => c_X1_cells C.2.2.2.2.2.2.2.1 hz) ⟨Nat.le_of_ble_eq_true rfl, Nat.le_of_ble_eq_true rfl⟩ rfl rfl 2 rfl rfl rfl (Nat.le_of_ble_eq_true rfl) dX6_countPairs_9 fun r2 S1 => ?_
  refine g_icmp_ge (pc := 12) (tgt := 54) C dX6_countPairs_12 (by decide) ?_ ?_
  · refine g_sub [1] rfl (hk _ _)
  · refine g_iload_n (pc := 15) C dX6_countPairs_15 (i := 2) rfl 2 rfl ?_
    refine g_iconst (pc := 16) (v := 1) C dX6_countPairs_16 (by decide) ?_
    refine g_iadd (pc := 17) C dX6_countPairs_17 ?_
    refine g_nmi fun y3 => ?_
    refine g_istore_n (pc := 18) (i := 3) (lv2 := [(3, .int y3), (0, .ref (ad 0)), (1, .int x1), (2, .int x2)]) C dX6_countPairs_18 rfl (by decide) rfl ?_
    refine g_sub [1, 2, 3, 0] (lv2 := [(0, .ref (ad 0)), (1, .int x1), (2, .int x2), (3, .int y3)]) rfl ?_
    refine g_it2 (pc := 19) (u_X6_countPairs_19 C hr _ _ fun x1_S8 S8 => ?_) _ _ _ _
    refine g_iinc (pc := 48) (v := (x2 + 1)) (lv2 := [(2, .int (x2 + 1)), (0, .ref (ad 0)), (1, .int x1_S8)]) C dX6_countPairs_48 2 rfl rfl (by decide) rfl ?_
    refine g_goto (pc := 51) (tgt := 4) C dX6_countPairs_51 (by decide) ?_
    refine g_sub [1, 2, 0] rfl (hrec _ _ _)
set_option maxRecDepth 20000 in
theorem c_X6_countPairs {l : Launch} {D : va_G} {ad : Nat → Nat} {cI cJ cZ : ClassId} {n : Nat} (hD : ∀ sz S, va_D (Adr ad n sz) (wX ad cI cJ cZ S)) {S : St} {z : Int32 × St} (hf : m_X6_countPairs S = some z) : CtI l yX6_countPairs cX6_countPairs 4 (some .int) ({ frames := 4, cells := 0, slots := 0, locals := 90 } : Room) D (wX ad cI cJ cZ) (tyX cI cJ cZ) ad n [.ref (ad 0)] S z := by
  refine CtI.of hf (by decide +kernel) (Nat.le_of_ble_eq_true rfl) hD (fun p e s m args below meth c C hr => ?_)
  refine g_sub [0] (lv2 := [(0, .ref (ad 0))]) rfl ?_
  unfold m_X6_countPairs
  refine g_iconst (pc := 0) (v := 0) C dX6_countPairs_0 (by decide) ?_
  refine g_istore_n (pc := 1) (i := 1) (lv2 := [(1, .int (0 : Int32)), (0, .ref (ad 0))]) C dX6_countPairs_1 rfl (by decide) rfl ?_
  refine g_iconst (pc := 2) (v := 0) C dX6_countPairs_2 (by decide) ?_
  refine g_istore_n (pc := 3) (i := 2) (lv2 := [(2, .int (0 : Int32)), (1, .int (0 : Int32)), (0, .ref (ad 0))]) C dX6_countPairs_3 rfl (by decide) rfl ?_
  refine g_sub [2, 1, 0] (lv2 := [(0, .ref (ad 0)), (1, .int (0 : Int32)), (2, .int (0 : Int32))]) rfl ?_
  refine g_it2 (pc := 4) (u_X6_countPairs_4 C hr _ fun x1_S9 S9 => ?_) _ _ _ _
  refine g_iload_n (pc := 54) C dX6_countPairs_54 (i := 1) rfl 0 rfl ?_
  exact g_iret (pc := 55) C hr dX6_countPairs_55
noncomputable def m_X6_changes (x1 : Int32) (S : St) : Option (Int32 × St) :=
bnd (m_X6_isBelow x1 (2 : Int32) S) fun r2 S1 =>
if r2 = 0 then (
some ((-2 : Int32), S1))
else
if x1 = 0 then (
bnd (m_X6_countPairs S1) fun r6 S5 =>
some (r6, S5))
else
bnd (m_X6_countRings S1) fun r4 S3 =>
some (r4, S3)
set_option maxRecDepth 20000 in
theorem c_X6_changes {l : Launch} {D : va_G} {ad : Nat → Nat} {cI cJ cZ : ClassId} {n : Nat} (hD : ∀ sz S, va_D (Adr ad n sz) (wX ad cI cJ cZ S)) {x1 : Int32} {S : St} {z : Int32 × St} (hf : m_X6_changes x1 S = some z) : CtI l yX6_changes cX6_changes 2 (some .int) ({ frames := 5, cells := 0, slots := 0, locals := 116 } : Room) D (wX ad cI cJ cZ) (tyX cI cJ cZ) ad n [.ref (ad 0), .int x1] S z := by
  refine CtI.of hf (by decide +kernel) (Nat.le_of_ble_eq_true rfl) hD (fun p e s m args below meth c C hr => ?_)
  refine g_sub [0, 1] (lv2 := [(0, .ref (ad 0)), (1, .int x1)]) rfl ?_
  unfold m_X6_changes
  refine g_iload_n (pc := 0) C dX6_changes_0 (i := 1) rfl 1 rfl ?_
  refine g_iconst (pc := 1) (v := 2) C dX6_changes_1 (by decide) ?_
  refine g_callSi (pc := 2) (As := [.int _, .int _]) C q303 mw_X6_isBelow (fun _ hz => c_X6_isBelow C.2.2.2.2.2.2.2.1 hz) ⟨Nat.le_of_ble_eq_true rfl, Nat.le_of_ble_eq_true rfl⟩ rfl rfl rfl (Nat.le_of_ble_eq_true rfl) dX6_changes_2 fun r2 S1 => ?_
  refine g_if_ne (pc := 5) (tgt := 11) C dX6_changes_5 (by decide) ?_ ?_
  · refine g_iload_n (pc := 11) C dX6_changes_11 (i := 1) rfl 1 rfl ?_
    refine g_if_ne (pc := 12) (tgt := 22) C dX6_changes_12 (by decide) ?_ ?_
    · refine g_aload_n (pc := 22) C dX6_changes_22 (i := 0) rfl 0 rfl ?_
      refine g_callVi (pc := 23) (As := []) C q639 mw_X6_countRings (fun _ hz => c_X6_countRings C.2.2.2.2.2.2.2.1 hz) ⟨Nat.le_of_ble_eq_true rfl, Nat.le_of_ble_eq_true rfl⟩ rfl rfl 0 rfl rfl rfl (Nat.le_of_ble_eq_true rfl) dX6_changes_23 fun r4 S3 => ?_
      exact g_iret (pc := 26) C hr dX6_changes_26
    · refine g_aload_n (pc := 15) C dX6_changes_15 (i := 0) rfl 0 rfl ?_
      refine g_callVi (pc := 16) (As := []) C q635 mw_X6_countPairs (fun _ hz => c_X6_countPairs C.2.2.2.2.2.2.2.1 hz) ⟨Nat.le_of_ble_eq_true rfl, Nat.le_of_ble_eq_true rfl⟩ rfl rfl 0 rfl rfl rfl (Nat.le_of_ble_eq_true rfl) dX6_changes_16 fun r6 S5 => ?_
      refine g_goto (pc := 19) (tgt := 26) C dX6_changes_19 (by decide) ?_
      exact g_iret (pc := 26) C hr dX6_changes_26
  · refine g_bipush (pc := 8) (v := -2) C dX6_changes_8 (by decide) ?_
    exact g_iret (pc := 10) C hr dX6_changes_10
noncomputable def m_X3_changePay (x1 : Int32) (x2 : Int32) (S : St) : Option (Int32 × St) :=
chk x1 3 <|
nm ((gI S 18 (ix x1))) fun y1 =>
chk x1 3 <|
nm (sI S 18 (ix x1) x2) fun S2 =>
some (y1, S2)
set_option maxRecDepth 20000 in
theorem c_X3_changePay {l : Launch} {D : va_G} {ad : Nat → Nat} {cI cJ cZ : ClassId} {n : Nat} (hD : ∀ sz S, va_D (Adr ad n sz) (wX ad cI cJ cZ S)) {x1 : Int32} {x2 : Int32} {S : St} {z : Int32 × St} (hf : m_X3_changePay x1 x2 S = some z) : CtI l yX3_changePay cX3_changePay 4 (some .int) ({ frames := 0, cells := 0, slots := 0, locals := 0 } : Room) D (wX ad cI cJ cZ) (tyX cI cJ cZ) ad n [.ref (ad 4), .int x1, .int x2] S z := by
  refine CtI.of hf (by decide +kernel) (Nat.le_of_ble_eq_true rfl) hD (fun p e s m args below meth c C hr => ?_)
  refine g_sub [0, 1, 2] (lv2 := [(0, .ref (ad 4)), (1, .int x1), (2, .int x2)]) rfl ?_
  unfold m_X3_changePay
  refine g_aload_n (pc := 0) C dX3_changePay_0 (i := 0) rfl 0 rfl ?_
  refine gt_X3_pays (pc := 1) C q199 dX3_changePay_1 ?_
  refine g_iload_n (pc := 4) C dX3_changePay_4 (i := 1) rfl 1 rfl ?_
  refine al_X3_pays (pc := 5) C dX3_changePay_5 ?_
  refine g_nmi fun y1 => ?_
  refine g_istore_n (pc := 6) (i := 3) (lv2 := [(3, .int y1), (0, .ref (ad 4)), (1, .int x1), (2, .int x2)]) C dX3_changePay_6 rfl (by decide) rfl ?_
  refine g_aload_n (pc := 7) C dX3_changePay_7 (i := 0) rfl 1 rfl ?_
  refine gt_X3_pays (pc := 8) C q199 dX3_changePay_8 ?_
  refine g_iload_n (pc := 11) C dX3_changePay_11 (i := 1) rfl 2 rfl ?_
  refine g_iload_n (pc := 12) C dX3_changePay_12 (i := 2) rfl 3 rfl ?_
  refine as_X3_pays (pc := 13) C dX3_changePay_13 fun S2 => ?_
  refine g_iload_n (pc := 14) C dX3_changePay_14 (i := 3) rfl 0 rfl ?_
  exact g_iret (pc := 15) C hr dX3_changePay_15
noncomputable def m_X3_changeNeed (x1 : Int32) (x2 : Int32) (S : St) : Option (Int32 × St) :=
chk x1 3 <|
nm ((gI S 17 (ix x1))) fun y1 =>
chk x1 3 <|
nm (sI S 17 (ix x1) x2) fun S2 =>
some (y1, S2)
set_option maxRecDepth 20000 in
theorem c_X3_changeNeed {l : Launch} {D : va_G} {ad : Nat → Nat} {cI cJ cZ : ClassId} {n : Nat} (hD : ∀ sz S, va_D (Adr ad n sz) (wX ad cI cJ cZ S)) {x1 : Int32} {x2 : Int32} {S : St} {z : Int32 × St} (hf : m_X3_changeNeed x1 x2 S = some z) : CtI l yX3_changeNeed cX3_changeNeed 4 (some .int) ({ frames := 0, cells := 0, slots := 0, locals := 0 } : Room) D (wX ad cI cJ cZ) (tyX cI cJ cZ) ad n [.ref (ad 4), .int x1, .int x2] S z := by
  refine CtI.of hf (by decide +kernel) (Nat.le_of_ble_eq_true rfl) hD (fun p e s m args below meth c C hr => ?_)
  refine g_sub [0, 1, 2] (lv2 := [(0, .ref (ad 4)), (1, .int x1), (2, .int x2)]) rfl ?_
  unfold m_X3_changeNeed
  refine g_aload_n (pc := 0) C dX3_changeNeed_0 (i := 0) rfl 0 rfl ?_
  refine gt_X3_needs (pc := 1) C q198 dX3_changeNeed_1 ?_
  refine g_iload_n (pc := 4) C dX3_changeNeed_4 (i := 1) rfl 1 rfl ?_
  refine al_X3_needs (pc := 5) C dX3_changeNeed_5 ?_
  refine g_nmi fun y1 => ?_
  refine g_istore_n (pc := 6) (i := 3) (lv2 := [(3, .int y1), (0, .ref (ad 4)), (1, .int x1), (2, .int x2)]) C dX3_changeNeed_6 rfl (by decide) rfl ?_
  refine g_aload_n (pc := 7) C dX3_changeNeed_7 (i := 0) rfl 1 rfl ?_
  refine gt_X3_needs (pc := 8) C q198 dX3_changeNeed_8 ?_
  refine g_iload_n (pc := 11) C dX3_changeNeed_11 (i := 1) rfl 2 rfl ?_
  refine g_iload_n (pc := 12) C dX3_changeNeed_12 (i := 2) rfl 3 rfl ?_
  refine as_X3_needs (pc := 13) C dX3_changeNeed_13 fun S2 => ?_
  refine g_iload_n (pc := 14) C dX3_changeNeed_14 (i := 3) rfl 0 rfl ?_
  exact g_iret (pc := 15) C hr dX3_changeNeed_15
noncomputable def m_X6_sort (x1 : Int32) (x2 : Int32) (x3 : Int32) (S : St) : Option (Int32 × St) :=
bnd (m_X6_isBelow x1 (3 : Int32) S) fun r2 S1 =>
if r2 = 0 then (
some ((-2 : Int32), S1))
else
bnd (m_X6_isBelow x2 (2 : Int32) S1) fun r4 S3 =>
if r4 = 0 then (
some ((-2 : Int32), S3))
else
if x2 = 0 then (
bnd (m_X6_isBelow x3 ((9999 : Int32) + (1 : Int32)) S3) fun r13 S12 =>
if r13 = 0 then (
some ((-2 : Int32), S12))
else
nm (sI S12 57 0 (0 : Int32)) fun S14 =>
if x2 = 0 then (
bnd (m_X3_changeNeed x1 x3 S14) fun r18 S17 =>
some (r18, S17))
else
bnd (m_X3_changePay x1 x3 S14) fun r16 S15 =>
some (r16, S15))
else
bnd (m_X6_isBelow x3 ((99 : Int32) + (1 : Int32)) S3) fun r6 S5 =>
if r6 = 0 then (
some ((-2 : Int32), S5))
else
nm (sI S5 57 0 (0 : Int32)) fun S7 =>
if x2 = 0 then (
bnd (m_X3_changeNeed x1 x3 S7) fun r11 S10 =>
some (r11, S10))
else
bnd (m_X3_changePay x1 x3 S7) fun r9 S8 =>
some (r9, S8)
set_option maxRecDepth 20000 in
theorem c_X6_sort {l : Launch} {D : va_G} {ad : Nat → Nat} {cI cJ cZ : ClassId} {n : Nat} (hD : ∀ sz S, va_D (Adr ad n sz) (wX ad cI cJ cZ S)) {x1 : Int32} {x2 : Int32} {x3 : Int32} {S : St} {z : Int32 × St} (hf : m_X6_sort x1 x2 x3 S = some z) : CtI l yX6_sort cX6_sort 4 (some .int) ({ frames := 1, cells := 0, slots := 0, locals := 23 } : Room) D (wX ad cI cJ cZ) (tyX cI cJ cZ) ad n [.ref (ad 0), .int x1, .int x2, .int x3] S z := by
  refine CtI.of hf (by decide +kernel) (Nat.le_of_ble_eq_true rfl) hD (fun p e s m args below meth c C hr => ?_)
  refine g_sub [0, 1, 2, 3] (lv2 := [(0, .ref (ad 0)), (1, .int x1), (2, .int x2), (3, .int x3)]) rfl ?_
  unfold m_X6_sort
  refine g_iload_n (pc := 0) C dX6_sort_0 (i := 1) rfl 1 rfl ?_
  refine g_iconst (pc := 1) (v := 3) C dX6_sort_1 (by decide) ?_
  refine g_callSi (pc := 2) (As := [.int _, .int _]) C q303 mw_X6_isBelow (fun _ hz => c_X6_isBelow C.2.2.2.2.2.2.2.1 hz) ⟨Nat.le_of_ble_eq_true rfl, Nat.le_of_ble_eq_true rfl⟩ rfl rfl rfl (Nat.le_of_ble_eq_true rfl) dX6_sort_2 fun r2 S1 => ?_
  refine g_if_eq (pc := 5) (tgt := 16) C dX6_sort_5 (by decide) ?_ ?_
  · refine g_bipush (pc := 16) (v := -2) C dX6_sort_16 (by decide) ?_
    exact g_iret (pc := 18) C hr dX6_sort_18
  · refine g_iload_n (pc := 8) C dX6_sort_8 (i := 2) rfl 2 rfl ?_
    refine g_iconst (pc := 9) (v := 2) C dX6_sort_9 (by decide) ?_
    refine g_callSi (pc := 10) (As := [.int _, .int _]) C q303 mw_X6_isBelow (fun _ hz => c_X6_isBelow C.2.2.2.2.2.2.2.1 hz) ⟨Nat.le_of_ble_eq_true rfl, Nat.le_of_ble_eq_true rfl⟩ rfl rfl rfl (Nat.le_of_ble_eq_true rfl) dX6_sort_10 fun r4 S3 => ?_
    refine g_if_ne (pc := 13) (tgt := 19) C dX6_sort_13 (by decide) ?_ ?_
    · refine g_iload_n (pc := 19) C dX6_sort_19 (i := 3) rfl 3 rfl ?_
      refine g_iload_n (pc := 20) C dX6_sort_20 (i := 2) rfl 2 rfl ?_
      refine g_if_ne (pc := 21) (tgt := 30) C dX6_sort_21 (by decide) ?_ ?_
      · refine g_bipush (pc := 30) (v := 99) C dX6_sort_30 (by decide) ?_
        refine g_iconst (pc := 32) (v := 1) C dX6_sort_32 (by decide) ?_
        refine g_iadd (pc := 33) C dX6_sort_33 ?_
        refine g_callSi (pc := 34) (As := [.int _, .int _]) C q303 mw_X6_isBelow (fun _ hz => c_X6_isBelow C.2.2.2.2.2.2.2.1 hz) ⟨Nat.le_of_ble_eq_true rfl, Nat.le_of_ble_eq_true rfl⟩ rfl rfl rfl (Nat.le_of_ble_eq_true rfl) dX6_sort_34 fun r6 S5 => ?_
        refine g_if_ne (pc := 37) (tgt := 43) C dX6_sort_37 (by decide) ?_ ?_
        · refine g_aload_n (pc := 43) C dX6_sort_43 (i := 0) rfl 0 rfl ?_
          refine g_iconst (pc := 44) (v := 0) C dX6_sort_44 (by decide) ?_
          refine pt_X6_plantsKnown (pc := 45) C (Or.inl rfl) q263 dX6_sort_45 fun S7 => ?_
          refine g_iload_n (pc := 48) C dX6_sort_48 (i := 2) rfl 2 rfl ?_
          refine g_if_ne (pc := 49) (tgt := 64) C dX6_sort_49 (by decide) ?_ ?_
          · refine g_aload_n (pc := 64) C dX6_sort_64 (i := 0) rfl 0 rfl ?_
            refine gt_X6_planting (pc := 65) C q250 dX6_sort_65 ?_
            refine g_iload_n (pc := 68) C dX6_sort_68 (i := 1) rfl 1 rfl ?_
            refine g_iload_n (pc := 69) C dX6_sort_69 (i := 3) rfl 3 rfl ?_
            refine g_callVi (pc := 70) (As := [.int _, .int _]) C q655 mw_X3_changePay (fun _ hz => c_X3_changePay C.2.2.2.2.2.2.2.1 hz) ⟨Nat.le_of_ble_eq_true rfl, Nat.le_of_ble_eq_true rfl⟩ rfl rfl 4 rfl rfl rfl (Nat.le_of_ble_eq_true rfl) dX6_sort_70 fun r9 S8 => ?_
            exact g_iret (pc := 73) C hr dX6_sort_73
          · refine g_aload_n (pc := 52) C dX6_sort_52 (i := 0) rfl 0 rfl ?_
            refine gt_X6_planting (pc := 53) C q250 dX6_sort_53 ?_
            refine g_iload_n (pc := 56) C dX6_sort_56 (i := 1) rfl 1 rfl ?_
            refine g_iload_n (pc := 57) C dX6_sort_57 (i := 3) rfl 3 rfl ?_
            refine g_callVi (pc := 58) (As := [.int _, .int _]) C q651 mw_X3_changeNeed (fun _ hz => c_X3_changeNeed C.2.2.2.2.2.2.2.1 hz) ⟨Nat.le_of_ble_eq_true rfl, Nat.le_of_ble_eq_true rfl⟩ rfl rfl 4 rfl rfl rfl (Nat.le_of_ble_eq_true rfl) dX6_sort_58 fun r11 S10 => ?_
            refine g_goto (pc := 61) (tgt := 73) C dX6_sort_61 (by decide) ?_
            exact g_iret (pc := 73) C hr dX6_sort_73
        · refine g_bipush (pc := 40) (v := -2) C dX6_sort_40 (by decide) ?_
          exact g_iret (pc := 42) C hr dX6_sort_42
      · refine g_sipush (pc := 24) (v := 9999) C dX6_sort_24 (by decide) ?_
        refine g_goto (pc := 27) (tgt := 32) C dX6_sort_27 (by decide) ?_
        refine g_iconst (pc := 32) (v := 1) C dX6_sort_32 (by decide) ?_
        refine g_iadd (pc := 33) C dX6_sort_33 ?_
        refine g_callSi (pc := 34) (As := [.int _, .int _]) C q303 mw_X6_isBelow (fun _ hz => c_X6_isBelow C.2.2.2.2.2.2.2.1 hz) ⟨Nat.le_of_ble_eq_true rfl, Nat.le_of_ble_eq_true rfl⟩ rfl rfl rfl (Nat.le_of_ble_eq_true rfl) dX6_sort_34 fun r13 S12 => ?_
        refine g_if_ne (pc := 37) (tgt := 43) C dX6_sort_37 (by decide) ?_ ?_
        · refine g_aload_n (pc := 43) C dX6_sort_43 (i := 0) rfl 0 rfl ?_
          refine g_iconst (pc := 44) (v := 0) C dX6_sort_44 (by decide) ?_
          refine pt_X6_plantsKnown (pc := 45) C (Or.inl rfl) q263 dX6_sort_45 fun S14 => ?_
          refine g_iload_n (pc := 48) C dX6_sort_48 (i := 2) rfl 2 rfl ?_
          refine g_if_ne (pc := 49) (tgt := 64) C dX6_sort_49 (by decide) ?_ ?_
          · refine g_aload_n (pc := 64) C dX6_sort_64 (i := 0) rfl 0 rfl ?_
            refine gt_X6_planting (pc := 65) C q250 dX6_sort_65 ?_
            refine g_iload_n (pc := 68) C dX6_sort_68 (i := 1) rfl 1 rfl ?_
            refine g_iload_n (pc := 69) C dX6_sort_69 (i := 3) rfl 3 rfl ?_
            refine g_callVi (pc := 70) (As := [.int _, .int _]) C q655 mw_X3_changePay (fun _ hz => c_X3_changePay C.2.2.2.2.2.2.2.1 hz) ⟨Nat.le_of_ble_eq_true rfl, Nat.le_of_ble_eq_true rfl⟩ rfl rfl 4 rfl rfl rfl (Nat.le_of_ble_eq_true rfl) dX6_sort_70 fun r16 S15 => ?_
            exact g_iret (pc := 73) C hr dX6_sort_73
          · refine g_aload_n (pc := 52) C dX6_sort_52 (i := 0) rfl 0 rfl ?_
            refine gt_X6_planting (pc := 53) C q250 dX6_sort_53 ?_
            refine g_iload_n (pc := 56) C dX6_sort_56 (i := 1) rfl 1 rfl ?_
            refine g_iload_n (pc := 57) C dX6_sort_57 (i := 3) rfl 3 rfl ?_
            refine g_callVi (pc := 58) (As := [.int _, .int _]) C q651 mw_X3_changeNeed (fun _ hz => c_X3_changeNeed C.2.2.2.2.2.2.2.1 hz) ⟨Nat.le_of_ble_eq_true rfl, Nat.le_of_ble_eq_true rfl⟩ rfl rfl 4 rfl rfl rfl (Nat.le_of_ble_eq_true rfl) dX6_sort_58 fun r18 S17 => ?_
            refine g_goto (pc := 61) (tgt := 73) C dX6_sort_61 (by decide) ?_
            exact g_iret (pc := 73) C hr dX6_sort_73
        · refine g_bipush (pc := 40) (v := -2) C dX6_sort_40 (by decide) ?_
          exact g_iret (pc := 42) C hr dX6_sort_42
    · refine g_bipush (pc := 16) (v := -2) C dX6_sort_16 (by decide) ?_
      exact g_iret (pc := 18) C hr dX6_sort_18
noncomputable def m_X3_sortOn (x1 : Int32) (S : St) : Option (Int32 × St) :=
chk x1 12 <|
some ((gI S 19 (ix x1)), S)
set_option maxRecDepth 20000 in
theorem c_X3_sortOn {l : Launch} {D : va_G} {ad : Nat → Nat} {cI cJ cZ : ClassId} {n : Nat} (hD : ∀ sz S, va_D (Adr ad n sz) (wX ad cI cJ cZ S)) {x1 : Int32} {S : St} {z : Int32 × St} (hf : m_X3_sortOn x1 S = some z) : CtI l yX3_sortOn cX3_sortOn 2 (some .int) ({ frames := 0, cells := 0, slots := 0, locals := 0 } : Room) D (wX ad cI cJ cZ) (tyX cI cJ cZ) ad n [.ref (ad 4), .int x1] S z := by
  refine CtI.of hf (by decide +kernel) (Nat.le_of_ble_eq_true rfl) hD (fun p e s m args below meth c C hr => ?_)
  refine g_sub [0, 1] (lv2 := [(0, .ref (ad 4)), (1, .int x1)]) rfl ?_
  unfold m_X3_sortOn
  refine g_aload_n (pc := 0) C dX3_sortOn_0 (i := 0) rfl 0 rfl ?_
  refine gt_X3_sorts (pc := 1) C q200 dX3_sortOn_1 ?_
  refine g_iload_n (pc := 4) C dX3_sortOn_4 (i := 1) rfl 1 rfl ?_
  refine al_X3_sorts (pc := 5) C dX3_sortOn_5 ?_
  exact g_iret (pc := 6) C hr dX3_sortOn_6
noncomputable def m_X3_mostPaid (S : St) : Option (Int32 × St) :=
chk (0 : Int32) 1625 <|
some ((gI S 20 (ix (0 : Int32))), S)
set_option maxRecDepth 20000 in
theorem c_X3_mostPaid {l : Launch} {D : va_G} {ad : Nat → Nat} {cI cJ cZ : ClassId} {n : Nat} (hD : ∀ sz S, va_D (Adr ad n sz) (wX ad cI cJ cZ S)) {S : St} {z : Int32 × St} (hf : m_X3_mostPaid S = some z) : CtI l yX3_mostPaid cX3_mostPaid 1 (some .int) ({ frames := 0, cells := 0, slots := 0, locals := 0 } : Room) D (wX ad cI cJ cZ) (tyX cI cJ cZ) ad n [.ref (ad 4)] S z := by
  refine CtI.of hf (by decide +kernel) (Nat.le_of_ble_eq_true rfl) hD (fun p e s m args below meth c C hr => ?_)
  refine g_sub [0] (lv2 := [(0, .ref (ad 4))]) rfl ?_
  unfold m_X3_mostPaid
  refine g_aload_n (pc := 0) C dX3_mostPaid_0 (i := 0) rfl 0 rfl ?_
  refine gt_X3_most (pc := 1) C q201 dX3_mostPaid_1 ?_
  refine g_iconst (pc := 4) (v := 0) C dX3_mostPaid_4 (by decide) ?_
  refine al_X3_most (pc := 5) C dX3_mostPaid_5 ?_
  exact g_iret (pc := 6) C hr dX3_mostPaid_6
noncomputable def m_X3_weightOf (x0 : Int32) (S : St) : Option (Int32 × St) :=
if x0 = (-1 : Int32) then (
some ((0 : Int32), S))
else
if x0 = 0 then (
some ((1 : Int32), S))
else
if x0 = (1 : Int32) then (
some ((5 : Int32), S))
else
some ((25 : Int32), S)
set_option maxRecDepth 20000 in
theorem c_X3_weightOf {l : Launch} {D : va_G} {ad : Nat → Nat} {cI cJ cZ : ClassId} {n : Nat} (hD : ∀ sz S, va_D (Adr ad n sz) (wX ad cI cJ cZ S)) {x0 : Int32} {S : St} {z : Int32 × St} (hf : m_X3_weightOf x0 S = some z) : CtI l yX3_weightOf cX3_weightOf 1 (some .int) ({ frames := 0, cells := 0, slots := 0, locals := 0 } : Room) D (wX ad cI cJ cZ) (tyX cI cJ cZ) ad n [.int x0] S z := by
  refine CtI.of hf (by decide +kernel) (Nat.le_of_ble_eq_true rfl) hD (fun p e s m args below meth c C hr => ?_)
  refine g_sub [0] (lv2 := [(0, .int x0)]) rfl ?_
  unfold m_X3_weightOf
  refine g_iload_n (pc := 0) C dX3_weightOf_0 (i := 0) rfl 0 rfl ?_
  refine g_iconst (pc := 1) (v := -1) C dX3_weightOf_1 (by decide) ?_
  refine g_icmp_ne (pc := 2) (tgt := 7) C dX3_weightOf_2 (by decide) ?_ ?_
  · refine g_iload_n (pc := 7) C dX3_weightOf_7 (i := 0) rfl 0 rfl ?_
    refine g_if_ne (pc := 8) (tgt := 13) C dX3_weightOf_8 (by decide) ?_ ?_
    · refine g_iload_n (pc := 13) C dX3_weightOf_13 (i := 0) rfl 0 rfl ?_
      refine g_iconst (pc := 14) (v := 1) C dX3_weightOf_14 (by decide) ?_
      refine g_icmp_ne (pc := 15) (tgt := 22) C dX3_weightOf_15 (by decide) ?_ ?_
      · refine g_bipush (pc := 22) (v := 25) C dX3_weightOf_22 (by decide) ?_
        exact g_iret (pc := 24) C hr dX3_weightOf_24
      · refine g_iconst (pc := 18) (v := 5) C dX3_weightOf_18 (by decide) ?_
        refine g_goto (pc := 19) (tgt := 24) C dX3_weightOf_19 (by decide) ?_
        exact g_iret (pc := 24) C hr dX3_weightOf_24
    · refine g_iconst (pc := 11) (v := 1) C dX3_weightOf_11 (by decide) ?_
      exact g_iret (pc := 12) C hr dX3_weightOf_12
  · refine g_iconst (pc := 5) (v := 0) C dX3_weightOf_5 (by decide) ?_
    exact g_iret (pc := 6) C hr dX3_weightOf_6
noncomputable def m_X3_payFrom (x1 : Int32) (x2 : Int32) (x3 : Int32) (S : St) : Option (Int32 × St) :=
bnd (m_X3_weightOf x3 S) fun r2 S1 =>
chk ((((x1 + (1 : Int32)) * (125 : Int32)) + x2) + r2) 1625 <|
nm ((gI S1 20 (ix ((((x1 + (1 : Int32)) * (125 : Int32)) + x2) + r2)))) fun y3 =>
if x3 = (-1 : Int32) then (
some (y3, S1))
else
chk x3 3 <|
some (((gI S1 18 (ix x3)) + y3), S1)
set_option maxRecDepth 20000 in
theorem c_X3_payFrom {l : Launch} {D : va_G} {ad : Nat → Nat} {cI cJ cZ : ClassId} {n : Nat} (hD : ∀ sz S, va_D (Adr ad n sz) (wX ad cI cJ cZ S)) {x1 : Int32} {x2 : Int32} {x3 : Int32} {S : St} {z : Int32 × St} (hf : m_X3_payFrom x1 x2 x3 S = some z) : CtI l yX3_payFrom cX3_payFrom 5 (some .int) ({ frames := 1, cells := 0, slots := 0, locals := 20 } : Room) D (wX ad cI cJ cZ) (tyX cI cJ cZ) ad n [.ref (ad 4), .int x1, .int x2, .int x3] S z := by
  refine CtI.of hf (by decide +kernel) (Nat.le_of_ble_eq_true rfl) hD (fun p e s m args below meth c C hr => ?_)
  refine g_sub [0, 1, 2, 3] (lv2 := [(0, .ref (ad 4)), (1, .int x1), (2, .int x2), (3, .int x3)]) rfl ?_
  unfold m_X3_payFrom
  refine g_aload_n (pc := 0) C dX3_payFrom_0 (i := 0) rfl 0 rfl ?_
  refine gt_X3_most (pc := 1) C q201 dX3_payFrom_1 ?_
  refine g_iload_n (pc := 4) C dX3_payFrom_4 (i := 1) rfl 1 rfl ?_
  refine g_iconst (pc := 5) (v := 1) C dX3_payFrom_5 (by decide) ?_
  refine g_iadd (pc := 6) C dX3_payFrom_6 ?_
  refine g_bipush (pc := 7) (v := 125) C dX3_payFrom_7 (by decide) ?_
  refine g_imul (pc := 9) C dX3_payFrom_9 ?_
  refine g_iload_n (pc := 10) C dX3_payFrom_10 (i := 2) rfl 2 rfl ?_
  refine g_iadd (pc := 11) C dX3_payFrom_11 ?_
  refine g_iload_n (pc := 12) C dX3_payFrom_12 (i := 3) rfl 3 rfl ?_
  refine g_callSi (pc := 13) (As := [.int _]) C q675 mw_X3_weightOf (fun _ hz => c_X3_weightOf C.2.2.2.2.2.2.2.1 hz) ⟨Nat.le_of_ble_eq_true rfl, Nat.le_of_ble_eq_true rfl⟩ rfl rfl rfl (Nat.le_of_ble_eq_true rfl) dX3_payFrom_13 fun r2 S1 => ?_
  refine g_iadd (pc := 16) C dX3_payFrom_16 ?_
  refine al_X3_most (pc := 17) C dX3_payFrom_17 ?_
  refine g_nmi fun y3 => ?_
  refine g_istore (pc := 18) (i := 4) (j := 0) (lv2 := [(4, .int y3), (0, .ref (ad 4)), (1, .int x1), (2, .int x2), (3, .int x3)]) C dX3_payFrom_18 (by decide) rfl ?_
  refine g_iload_n (pc := 20) C dX3_payFrom_20 (i := 3) rfl 4 rfl ?_
  refine g_iconst (pc := 21) (v := -1) C dX3_payFrom_21 (by decide) ?_
  refine g_icmp_ne (pc := 22) (tgt := 30) C dX3_payFrom_22 (by decide) ?_ ?_
  · refine g_aload_n (pc := 30) C dX3_payFrom_30 (i := 0) rfl 1 rfl ?_
    refine gt_X3_pays (pc := 31) C q199 dX3_payFrom_31 ?_
    refine g_iload_n (pc := 34) C dX3_payFrom_34 (i := 3) rfl 4 rfl ?_
    refine al_X3_pays (pc := 35) C dX3_payFrom_35 ?_
    refine g_iload (pc := 36) C dX3_payFrom_36 0 rfl ?_
    refine g_iadd (pc := 38) C dX3_payFrom_38 ?_
    exact g_iret (pc := 39) C hr dX3_payFrom_39
  · refine g_iload (pc := 25) C dX3_payFrom_25 0 rfl ?_
    refine g_goto (pc := 27) (tgt := 39) C dX3_payFrom_27 (by decide) ?_
    exact g_iret (pc := 39) C hr dX3_payFrom_39
noncomputable def m_X3_standAhead (x0 : Int32) (x1 : Int32) (S : St) : Option (Int32 × St) :=
if x1 = 0 then (
dchk (5 : Int32) <|
some ((x0 - x0 / (5 : Int32) * (5 : Int32)), S))
else
if x1 = (1 : Int32) then (
dchk (5 : Int32) <|
dchk (5 : Int32) <|
some (((x0 / (5 : Int32)) - (x0 / (5 : Int32)) / (5 : Int32) * (5 : Int32)), S))
else
dchk (25 : Int32) <|
some ((x0 / (25 : Int32)), S)
set_option maxRecDepth 20000 in
theorem c_X3_standAhead {l : Launch} {D : va_G} {ad : Nat → Nat} {cI cJ cZ : ClassId} {n : Nat} (hD : ∀ sz S, va_D (Adr ad n sz) (wX ad cI cJ cZ S)) {x0 : Int32} {x1 : Int32} {S : St} {z : Int32 × St} (hf : m_X3_standAhead x0 x1 S = some z) : CtI l yX3_standAhead cX3_standAhead 2 (some .int) ({ frames := 0, cells := 0, slots := 0, locals := 0 } : Room) D (wX ad cI cJ cZ) (tyX cI cJ cZ) ad n [.int x0, .int x1] S z := by
  refine CtI.of hf (by decide +kernel) (Nat.le_of_ble_eq_true rfl) hD (fun p e s m args below meth c C hr => ?_)
  refine g_sub [0, 1] (lv2 := [(0, .int x0), (1, .int x1)]) rfl ?_
  unfold m_X3_standAhead
  refine g_iload_n (pc := 0) C dX3_standAhead_0 (i := 1) rfl 1 rfl ?_
  refine g_if_ne (pc := 1) (tgt := 8) C dX3_standAhead_1 (by decide) ?_ ?_
  · refine g_iload_n (pc := 8) C dX3_standAhead_8 (i := 1) rfl 1 rfl ?_
    refine g_iconst (pc := 9) (v := 1) C dX3_standAhead_9 (by decide) ?_
    refine g_icmp_ne (pc := 10) (tgt := 21) C dX3_standAhead_10 (by decide) ?_ ?_
    · refine g_iload_n (pc := 21) C dX3_standAhead_21 (i := 0) rfl 0 rfl ?_
      refine g_bipush (pc := 22) (v := 25) C dX3_standAhead_22 (by decide) ?_
      refine g_idiv (pc := 24) C dX3_standAhead_24 ?_
      exact g_iret (pc := 25) C hr dX3_standAhead_25
    · refine g_iload_n (pc := 13) C dX3_standAhead_13 (i := 0) rfl 0 rfl ?_
      refine g_iconst (pc := 14) (v := 5) C dX3_standAhead_14 (by decide) ?_
      refine g_idiv (pc := 15) C dX3_standAhead_15 ?_
      refine g_iconst (pc := 16) (v := 5) C dX3_standAhead_16 (by decide) ?_
      refine g_irem (pc := 17) C dX3_standAhead_17 ?_
      refine g_goto (pc := 18) (tgt := 25) C dX3_standAhead_18 (by decide) ?_
      exact g_iret (pc := 25) C hr dX3_standAhead_25
  · refine g_iload_n (pc := 4) C dX3_standAhead_4 (i := 0) rfl 0 rfl ?_
    refine g_iconst (pc := 5) (v := 5) C dX3_standAhead_5 (by decide) ?_
    refine g_irem (pc := 6) C dX3_standAhead_6 ?_
    exact g_iret (pc := 7) C hr dX3_standAhead_7
noncomputable def m_X3_mayStand (x1 : Int32) (x2 : Int32) (x3 : Int32) (S : St) : Option (Int32 × St) :=
chk x2 3 <|
if x3 < (gI S 17 (ix x2)) then (
some ((0 : Int32), S))
else
bnd (m_X3_standAhead x1 x2 S) fun r2 S1 =>
if r2 < (4 : Int32) then (
some ((1 : Int32), S1))
else
some ((0 : Int32), S1)
set_option maxRecDepth 20000 in
theorem c_X3_mayStand {l : Launch} {D : va_G} {ad : Nat → Nat} {cI cJ cZ : ClassId} {n : Nat} (hD : ∀ sz S, va_D (Adr ad n sz) (wX ad cI cJ cZ S)) {x1 : Int32} {x2 : Int32} {x3 : Int32} {S : St} {z : Int32 × St} (hf : m_X3_mayStand x1 x2 x3 S = some z) : CtI l yX3_mayStand cX3_mayStand 4 (some .boolean) ({ frames := 1, cells := 0, slots := 0, locals := 21 } : Room) D (wX ad cI cJ cZ) (tyX cI cJ cZ) ad n [.ref (ad 4), .int x1, .int x2, .int x3] S z := by
  refine CtI.of hf (by decide +kernel) (Nat.le_of_ble_eq_true rfl) hD (fun p e s m args below meth c C hr => ?_)
  refine g_sub [0, 1, 2, 3] (lv2 := [(0, .ref (ad 4)), (1, .int x1), (2, .int x2), (3, .int x3)]) rfl ?_
  unfold m_X3_mayStand
  refine g_iload_n (pc := 0) C dX3_mayStand_0 (i := 3) rfl 3 rfl ?_
  refine g_aload_n (pc := 1) C dX3_mayStand_1 (i := 0) rfl 0 rfl ?_
  refine gt_X3_needs (pc := 2) C q198 dX3_mayStand_2 ?_
  refine g_iload_n (pc := 5) C dX3_mayStand_5 (i := 2) rfl 2 rfl ?_
  refine al_X3_needs (pc := 6) C dX3_mayStand_6 ?_
  refine g_icmp_lt (pc := 7) (tgt := 23) C dX3_mayStand_7 (by decide) ?_ ?_
  · refine g_iconst (pc := 23) (v := 0) C dX3_mayStand_23 (by decide) ?_
    exact g_zretq (pc := 24) C hr (Or.inl rfl) dX3_mayStand_24
  · refine g_iload_n (pc := 10) C dX3_mayStand_10 (i := 1) rfl 1 rfl ?_
    refine g_iload_n (pc := 11) C dX3_mayStand_11 (i := 2) rfl 2 rfl ?_
    refine g_callSi (pc := 12) (As := [.int _, .int _]) C q682 mw_X3_standAhead (fun _ hz => c_X3_standAhead C.2.2.2.2.2.2.2.1 hz) ⟨Nat.le_of_ble_eq_true rfl, Nat.le_of_ble_eq_true rfl⟩ rfl rfl rfl (Nat.le_of_ble_eq_true rfl) dX3_mayStand_12 fun r2 S1 => ?_
    refine g_iconst (pc := 15) (v := 4) C dX3_mayStand_15 (by decide) ?_
    refine g_icmp_ge (pc := 16) (tgt := 23) C dX3_mayStand_16 (by decide) ?_ ?_
    · refine g_iconst (pc := 23) (v := 0) C dX3_mayStand_23 (by decide) ?_
      exact g_zretq (pc := 24) C hr (Or.inl rfl) dX3_mayStand_24
    · refine g_iconst (pc := 19) (v := 1) C dX3_mayStand_19 (by decide) ?_
      refine g_goto (pc := 20) (tgt := 24) C dX3_mayStand_20 (by decide) ?_
      exact g_zretq (pc := 24) C hr (Or.inr rfl) dX3_mayStand_24
noncomputable def b_X3_bestFrom_12 (x1 : Int32) (x2 : Int32) (x3 : Int32) (k : Int32 → St → Option (Int32 × St)) (rec : Int32 → Int32 → St → Option (Int32 × St)) (x4 : Int32) (x5 : Int32) (S : St) : Option (Int32 × St) :=
if x5 < (3 : Int32) then (
bnd (m_X3_mayStand x2 x5 x3 S) fun r4 S3 =>
if r4 = 0 then (
rec x4 (x5 + 1) S3)
else
bnd (m_X3_payFrom x1 x2 x5 S3) fun r6 S5 =>
nm ((if x4 < r6 then r6 else x4)) fun y7 =>
rec y7 (x5 + 1) S5)
else
k x4 S
noncomputable def m_X3_bestFrom (x1 : Int32) (x2 : Int32) (x3 : Int32) (S : St) : Option (Int32 × St) :=
bnd (m_X3_payFrom x1 x2 (-1 : Int32) S) fun r2 S1 =>
it2 (b_X3_bestFrom_12 x1 x2 x3 (fun x4_S8 S8 =>
some (x4_S8, S8))) 5000 r2 (0 : Int32) S1
set_option maxRecDepth 20000 in
theorem u_X3_bestFrom_12 (C : Cx p s m args meth c cX3_bestFrom 6 RX3 D (tyX cI cJ cZ) ad n (wX ad cI cJ cZ)) (hr : meth.sig.returnType = (some .int)) (x1 : Int32) (x2 : Int32) (x3 : Int32) (k : Int32 → St → Option (Int32 × St)) (hk : ∀ (x4 : Int32) (S : St), GM p l e ({ frames := 2, cells := 0, slots := 0, locals := 44 } : Room) s m args below meth c D ad n (wX ad cI cJ cZ) 6 (QI D (wX ad cI cJ cZ) ad n args s below) (k x4 S) S 50 [(4, .int x4)] []) (rec : Int32 → Int32 → St → Option (Int32 × St)) (hrec : ∀ (x4 : Int32) (x5 : Int32) (S : St), GM p l e ({ frames := 2, cells := 0, slots := 0, locals := 44 } : Room) s m args below meth c D ad n (wX ad cI cJ cZ) 6 (QI D (wX ad cI cJ cZ) ad n args s below) (rec x4 x5 S) S 12 [(0, .ref (ad 4)), (1, .int x1), (2, .int x2), (3, .int x3), (4, .int x4), (5, .int x5)] []) (x4 : Int32) (x5 : Int32) (S : St) : GM p l e ({ frames := 2, cells := 0, slots := 0, locals := 44 } : Room) s m args below meth c D ad n (wX ad cI cJ cZ) 6 (QI D (wX ad cI cJ cZ) ad n args s below) (b_X3_bestFrom_12 x1 x2 x3 k rec x4 x5 S) S 12 [(0, .ref (ad 4)), (1, .int x1), (2, .int x2), (3, .int x3), (4, .int x4), (5, .int x5)] [] := by
  unfold b_X3_bestFrom_12
  refine g_iload (pc := 12) C dX3_bestFrom_12 5 rfl ?_
  refine g_iconst (pc := 14) (v := 3) C dX3_bestFrom_14 (by decide) ?_
  refine g_icmp_ge (pc := 15) (tgt := 50) C dX3_bestFrom_15 (by decide) ?_ ?_
  · refine g_sub [4] rfl (hk _ _)
  · refine g_aload_n (pc := 18) C dX3_bestFrom_18 (i := 0) rfl 0 rfl ?_
    refine g_iload_n (pc := 19) C dX3_bestFrom_19 (i := 2) rfl 2 rfl ?_
    refine g_iload (pc := 20) C dX3_bestFrom_20 5 rfl ?_
    refine g_iload_n (pc := 22) C dX3_bestFrom_22 (i := 3) rfl 3 rfl ?_
    refine g_callVi (pc := 23) (As := [.int _, .int _, .int _]) C q678 mw_X3_mayStand (fun _ hz => c_X3_mayStand C.2.2.2.2.2.2.2.1 hz) ⟨Nat.le_of_ble_eq_true rfl, Nat.le_of_ble_eq_true rfl⟩ rfl rfl 4 rfl rfl rfl (Nat.le_of_ble_eq_true rfl) dX3_bestFrom_23 fun r4 S3 => ?_
    refine g_if_eq (pc := 26) (tgt := 44) C dX3_bestFrom_26 (by decide) ?_ ?_
    · refine g_iinc (pc := 44) (v := (x5 + 1)) (lv2 := [(5, .int (x5 + 1)), (0, .ref (ad 4)), (1, .int x1), (2, .int x2), (3, .int x3), (4, .int x4)]) C dX3_bestFrom_44 5 rfl rfl (by decide) rfl ?_
      refine g_goto (pc := 47) (tgt := 12) C dX3_bestFrom_47 (by decide) ?_
      refine g_sub [1, 2, 3, 4, 5, 0] rfl (hrec _ _ _)
    · refine g_iload (pc := 29) C dX3_bestFrom_29 4 rfl ?_
      refine g_aload_n (pc := 31) C dX3_bestFrom_31 (i := 0) rfl 0 rfl ?_
      refine g_iload_n (pc := 32) C dX3_bestFrom_32 (i := 1) rfl 1 rfl ?_
      refine g_iload_n (pc := 33) C dX3_bestFrom_33 (i := 2) rfl 2 rfl ?_
      refine g_iload (pc := 34) C dX3_bestFrom_34 5 rfl ?_
      refine g_callVi (pc := 36) (As := [.int _, .int _, .int _]) C q671 mw_X3_payFrom (fun _ hz => c_X3_payFrom C.2.2.2.2.2.2.2.1 hz) ⟨Nat.le_of_ble_eq_true rfl, Nat.le_of_ble_eq_true rfl⟩ rfl rfl 4 rfl rfl rfl (Nat.le_of_ble_eq_true rfl) dX3_bestFrom_36 fun r6 S5 => ?_
      refine g_mmax (pc := 39) C q685 q580 q81 qm_max (Nat.le_of_ble_eq_true rfl) (Nat.le_of_ble_eq_true rfl) dX3_bestFrom_39 ?_
      refine g_nmi fun y7 => ?_
      refine g_istore (pc := 42) (i := 4) (j := 0) (lv2 := [(4, .int y7), (0, .ref (ad 4)), (1, .int x1), (2, .int x2), (3, .int x3), (5, .int x5)]) C dX3_bestFrom_42 (by decide) rfl ?_
      refine g_iinc (pc := 44) (v := (x5 + 1)) (lv2 := [(5, .int (x5 + 1)), (4, .int y7), (0, .ref (ad 4)), (1, .int x1), (2, .int x2), (3, .int x3)]) C dX3_bestFrom_44 5 rfl rfl (by decide) rfl ?_
      refine g_goto (pc := 47) (tgt := 12) C dX3_bestFrom_47 (by decide) ?_
      refine g_sub [2, 3, 4, 5, 1, 0] rfl (hrec _ _ _)
set_option maxRecDepth 20000 in
theorem c_X3_bestFrom {l : Launch} {D : va_G} {ad : Nat → Nat} {cI cJ cZ : ClassId} {n : Nat} (hD : ∀ sz S, va_D (Adr ad n sz) (wX ad cI cJ cZ S)) {x1 : Int32} {x2 : Int32} {x3 : Int32} {S : St} {z : Int32 × St} (hf : m_X3_bestFrom x1 x2 x3 S = some z) : CtI l yX3_bestFrom cX3_bestFrom 6 (some .int) ({ frames := 2, cells := 0, slots := 0, locals := 44 } : Room) D (wX ad cI cJ cZ) (tyX cI cJ cZ) ad n [.ref (ad 4), .int x1, .int x2, .int x3] S z := by
  refine CtI.of hf (by decide +kernel) (Nat.le_of_ble_eq_true rfl) hD (fun p e s m args below meth c C hr => ?_)
  refine g_sub [0, 1, 2, 3] (lv2 := [(0, .ref (ad 4)), (1, .int x1), (2, .int x2), (3, .int x3)]) rfl ?_
  unfold m_X3_bestFrom
  refine g_aload_n (pc := 0) C dX3_bestFrom_0 (i := 0) rfl 0 rfl ?_
  refine g_iload_n (pc := 1) C dX3_bestFrom_1 (i := 1) rfl 1 rfl ?_
  refine g_iload_n (pc := 2) C dX3_bestFrom_2 (i := 2) rfl 2 rfl ?_
  refine g_iconst (pc := 3) (v := -1) C dX3_bestFrom_3 (by decide) ?_
  refine g_callVi (pc := 4) (As := [.int _, .int _, .int _]) C q671 mw_X3_payFrom (fun _ hz => c_X3_payFrom C.2.2.2.2.2.2.2.1 hz) ⟨Nat.le_of_ble_eq_true rfl, Nat.le_of_ble_eq_true rfl⟩ rfl rfl 4 rfl rfl rfl (Nat.le_of_ble_eq_true rfl) dX3_bestFrom_4 fun r2 S1 => ?_
  refine g_istore (pc := 7) (i := 4) (j := 0) (lv2 := [(4, .int r2), (0, .ref (ad 4)), (1, .int x1), (2, .int x2), (3, .int x3)]) C dX3_bestFrom_7 (by decide) rfl ?_
  refine g_iconst (pc := 9) (v := 0) C dX3_bestFrom_9 (by decide) ?_
  refine g_istore (pc := 10) (i := 5) (j := 0) (lv2 := [(5, .int (0 : Int32)), (4, .int r2), (0, .ref (ad 4)), (1, .int x1), (2, .int x2), (3, .int x3)]) C dX3_bestFrom_10 (by decide) rfl ?_
  refine g_sub [2, 3, 4, 5, 1, 0] (lv2 := [(0, .ref (ad 4)), (1, .int x1), (2, .int x2), (3, .int x3), (4, .int r2), (5, .int (0 : Int32))]) rfl ?_
  refine g_it2 (pc := 12) (u_X3_bestFrom_12 C hr _ _ _ _ fun x4_S8 S8 => ?_) _ _ _ _
  refine g_iload (pc := 50) C dX3_bestFrom_50 0 rfl ?_
  exact g_iret (pc := 52) C hr dX3_bestFrom_52
noncomputable def b_X3_leastSort_30 (x1 : Int32) (x2 : Int32) (x3 : Int32) (x4 : Int32) (k : St → Option (Int32 × St)) (rec : Int32 → St → Option (Int32 × St)) (x5 : Int32) (S : St) : Option (Int32 × St) :=
if x5 < (3 : Int32) then (
bnd (m_X3_mayStand x2 x5 x3 S) fun r5 S4 =>
if r5 = 0 then (
rec (x5 + 1) S4)
else
bnd (m_X3_payFrom x1 x2 x5 S4) fun r7 S6 =>
if r7 = x4 then (
some (x5, S6))
else
rec (x5 + 1) S6)
else
k S
noncomputable def m_X3_leastSort (x1 : Int32) (x2 : Int32) (x3 : Int32) (S : St) : Option (Int32 × St) :=
chk ((x1 * (125 : Int32)) + x2) 1625 <|
nm ((gI S 20 (ix ((x1 * (125 : Int32)) + x2)))) fun y1 =>
bnd (m_X3_payFrom x1 x2 (-1 : Int32) S) fun r3 S2 =>
if r3 = y1 then (
some ((-1 : Int32), S2))
else
it1 (b_X3_leastSort_30 x1 x2 x3 y1 (fun S8 =>
some ((-1 : Int32), S8))) 5000 (0 : Int32) S2
set_option maxRecDepth 20000 in
theorem u_X3_leastSort_30 (C : Cx p s m args meth c cX3_leastSort 6 RX3 D (tyX cI cJ cZ) ad n (wX ad cI cJ cZ)) (hr : meth.sig.returnType = (some .int)) (x1 : Int32) (x2 : Int32) (x3 : Int32) (x4 : Int32) (k : St → Option (Int32 × St)) (hk : ∀ (S : St), GM p l e ({ frames := 2, cells := 0, slots := 0, locals := 44 } : Room) s m args below meth c D ad n (wX ad cI cJ cZ) 6 (QI D (wX ad cI cJ cZ) ad n args s below) (k S) S 69 [] []) (rec : Int32 → St → Option (Int32 × St)) (hrec : ∀ (x5 : Int32) (S : St), GM p l e ({ frames := 2, cells := 0, slots := 0, locals := 44 } : Room) s m args below meth c D ad n (wX ad cI cJ cZ) 6 (QI D (wX ad cI cJ cZ) ad n args s below) (rec x5 S) S 30 [(0, .ref (ad 4)), (1, .int x1), (2, .int x2), (3, .int x3), (4, .int x4), (5, .int x5)] []) (x5 : Int32) (S : St) : GM p l e ({ frames := 2, cells := 0, slots := 0, locals := 44 } : Room) s m args below meth c D ad n (wX ad cI cJ cZ) 6 (QI D (wX ad cI cJ cZ) ad n args s below) (b_X3_leastSort_30 x1 x2 x3 x4 k rec x5 S) S 30 [(0, .ref (ad 4)), (1, .int x1), (2, .int x2), (3, .int x3), (4, .int x4), (5, .int x5)] [] := by
  unfold b_X3_leastSort_30
  refine g_iload (pc := 30) C dX3_leastSort_30 5 rfl ?_
  refine g_iconst (pc := 32) (v := 3) C dX3_leastSort_32 (by decide) ?_
  refine g_icmp_ge (pc := 33) (tgt := 69) C dX3_leastSort_33 (by decide) ?_ ?_
  · refine g_sub [] rfl (hk _)
  · refine g_aload_n (pc := 36) C dX3_leastSort_36 (i := 0) rfl 0 rfl ?_
    refine g_iload_n (pc := 37) C dX3_leastSort_37 (i := 2) rfl 2 rfl ?_
    refine g_iload (pc := 38) C dX3_leastSort_38 5 rfl ?_
    refine g_iload_n (pc := 40) C dX3_leastSort_40 (i := 3) rfl 3 rfl ?_
    refine g_callVi (pc := 41) (As := [.int _, .int _, .int _]) C q678 mw_X3_mayStand (fun _ hz => c_X3_mayStand C.2.2.2.2.2.2.2.1 hz) ⟨Nat.le_of_ble_eq_true rfl, Nat.le_of_ble_eq_true rfl⟩ rfl rfl 4 rfl rfl rfl (Nat.le_of_ble_eq_true rfl) dX3_leastSort_41 fun r5 S4 => ?_
    refine g_if_eq (pc := 44) (tgt := 63) C dX3_leastSort_44 (by decide) ?_ ?_
    · refine g_iinc (pc := 63) (v := (x5 + 1)) (lv2 := [(5, .int (x5 + 1)), (0, .ref (ad 4)), (1, .int x1), (2, .int x2), (3, .int x3), (4, .int x4)]) C dX3_leastSort_63 5 rfl rfl (by decide) rfl ?_
      refine g_goto (pc := 66) (tgt := 30) C dX3_leastSort_66 (by decide) ?_
      refine g_sub [1, 2, 3, 4, 5, 0] rfl (hrec _ _)
    · refine g_aload_n (pc := 47) C dX3_leastSort_47 (i := 0) rfl 0 rfl ?_
      refine g_iload_n (pc := 48) C dX3_leastSort_48 (i := 1) rfl 1 rfl ?_
      refine g_iload_n (pc := 49) C dX3_leastSort_49 (i := 2) rfl 2 rfl ?_
      refine g_iload (pc := 50) C dX3_leastSort_50 5 rfl ?_
      refine g_callVi (pc := 52) (As := [.int _, .int _, .int _]) C q671 mw_X3_payFrom (fun _ hz => c_X3_payFrom C.2.2.2.2.2.2.2.1 hz) ⟨Nat.le_of_ble_eq_true rfl, Nat.le_of_ble_eq_true rfl⟩ rfl rfl 4 rfl rfl rfl (Nat.le_of_ble_eq_true rfl) dX3_leastSort_52 fun r7 S6 => ?_
      refine g_iload (pc := 55) C dX3_leastSort_55 4 rfl ?_
      refine g_icmp_ne (pc := 57) (tgt := 63) C dX3_leastSort_57 (by decide) ?_ ?_
      · refine g_iinc (pc := 63) (v := (x5 + 1)) (lv2 := [(5, .int (x5 + 1)), (0, .ref (ad 4)), (1, .int x1), (2, .int x2), (3, .int x3), (4, .int x4)]) C dX3_leastSort_63 5 rfl rfl (by decide) rfl ?_
        refine g_goto (pc := 66) (tgt := 30) C dX3_leastSort_66 (by decide) ?_
        refine g_sub [1, 2, 3, 4, 5, 0] rfl (hrec _ _)
      · refine g_iload (pc := 60) C dX3_leastSort_60 5 rfl ?_
        exact g_iret (pc := 62) C hr dX3_leastSort_62
set_option maxRecDepth 20000 in
theorem c_X3_leastSort {l : Launch} {D : va_G} {ad : Nat → Nat} {cI cJ cZ : ClassId} {n : Nat} (hD : ∀ sz S, va_D (Adr ad n sz) (wX ad cI cJ cZ S)) {x1 : Int32} {x2 : Int32} {x3 : Int32} {S : St} {z : Int32 × St} (hf : m_X3_leastSort x1 x2 x3 S = some z) : CtI l yX3_leastSort cX3_leastSort 6 (some .int) ({ frames := 2, cells := 0, slots := 0, locals := 44 } : Room) D (wX ad cI cJ cZ) (tyX cI cJ cZ) ad n [.ref (ad 4), .int x1, .int x2, .int x3] S z := by
  refine CtI.of hf (by decide +kernel) (Nat.le_of_ble_eq_true rfl) hD (fun p e s m args below meth c C hr => ?_)
  refine g_sub [0, 1, 2, 3] (lv2 := [(0, .ref (ad 4)), (1, .int x1), (2, .int x2), (3, .int x3)]) rfl ?_
  unfold m_X3_leastSort
  refine g_aload_n (pc := 0) C dX3_leastSort_0 (i := 0) rfl 0 rfl ?_
  refine gt_X3_most (pc := 1) C q201 dX3_leastSort_1 ?_
  refine g_iload_n (pc := 4) C dX3_leastSort_4 (i := 1) rfl 1 rfl ?_
  refine g_bipush (pc := 5) (v := 125) C dX3_leastSort_5 (by decide) ?_
  refine g_imul (pc := 7) C dX3_leastSort_7 ?_
  refine g_iload_n (pc := 8) C dX3_leastSort_8 (i := 2) rfl 2 rfl ?_
  refine g_iadd (pc := 9) C dX3_leastSort_9 ?_
  refine al_X3_most (pc := 10) C dX3_leastSort_10 ?_
  refine g_nmi fun y1 => ?_
  refine g_istore (pc := 11) (i := 4) (j := 0) (lv2 := [(4, .int y1), (0, .ref (ad 4)), (1, .int x1), (2, .int x2), (3, .int x3)]) C dX3_leastSort_11 (by decide) rfl ?_
  refine g_aload_n (pc := 13) C dX3_leastSort_13 (i := 0) rfl 1 rfl ?_
  refine g_iload_n (pc := 14) C dX3_leastSort_14 (i := 1) rfl 2 rfl ?_
  refine g_iload_n (pc := 15) C dX3_leastSort_15 (i := 2) rfl 3 rfl ?_
  refine g_iconst (pc := 16) (v := -1) C dX3_leastSort_16 (by decide) ?_
  refine g_callVi (pc := 17) (As := [.int _, .int _, .int _]) C q671 mw_X3_payFrom (fun _ hz => c_X3_payFrom C.2.2.2.2.2.2.2.1 hz) ⟨Nat.le_of_ble_eq_true rfl, Nat.le_of_ble_eq_true rfl⟩ rfl rfl 4 rfl rfl rfl (Nat.le_of_ble_eq_true rfl) dX3_leastSort_17 fun r3 S2 => ?_
  refine g_iload (pc := 20) C dX3_leastSort_20 0 rfl ?_
  refine g_icmp_ne (pc := 22) (tgt := 27) C dX3_leastSort_22 (by decide) ?_ ?_
  · refine g_iconst (pc := 27) (v := 0) C dX3_leastSort_27 (by decide) ?_
    refine g_istore (pc := 28) (i := 5) (j := 0) (lv2 := [(5, .int (0 : Int32)), (4, .int y1), (0, .ref (ad 4)), (1, .int x1), (2, .int x2), (3, .int x3)]) C dX3_leastSort_28 (by decide) rfl ?_
    refine g_sub [2, 3, 4, 5, 1, 0] (lv2 := [(0, .ref (ad 4)), (1, .int x1), (2, .int x2), (3, .int x3), (4, .int y1), (5, .int (0 : Int32))]) rfl ?_
    refine g_it1 (pc := 30) (u_X3_leastSort_30 C hr _ _ _ _ _ fun S8 => ?_) _ _ _
    refine g_iconst (pc := 69) (v := -1) C dX3_leastSort_69 (by decide) ?_
    exact g_iret (pc := 70) C hr dX3_leastSort_70
  · refine g_iconst (pc := 25) (v := -1) C dX3_leastSort_25 (by decide) ?_
    exact g_iret (pc := 26) C hr dX3_leastSort_26
end MM
