section MM
variable {p : Program} {l : Launch} {e : Env} {s : State} {m : MethodId} {args : Array Value} {below : List Frame} {meth : Method} {c : Code} {D : va_G} {ad : Nat → Nat} {n : Nat} {cI cJ cZ : ClassId}
noncomputable def b_X5_allYears_4 (k : Int32 → St → Option (Int32 × St)) (rec : Int32 → Int32 → St → Option (Int32 × St)) (x1 : Int32) (x2 : Int32) (S : St) : Option (Int32 × St) :=
bnd (m_X1_cells S) fun r2 S1 =>
if x2 < r2 then (
chk x2 12 <|
nm ((x1 + (gI S1 14 (ix x2)))) fun y3 =>
rec y3 (x2 + 1) S1)
else
k x1 S1
noncomputable def m_X5_allYears (S : St) : Option (Int32 × St) :=
it2 (b_X5_allYears_4 (fun x1_S4 S4 =>
some (x1_S4, S4))) 5000 (0 : Int32) (0 : Int32) S
set_option maxRecDepth 20000 in
theorem u_X5_allYears_4 (C : Cx p s m args meth c cX5_allYears 3 RX5 D (tyX cI cJ cZ) ad n (wX ad cI cJ cZ)) (hr : meth.sig.returnType = (some .int)) (k : Int32 → St → Option (Int32 × St)) (hk : ∀ (x1 : Int32) (S : St), GM p l e ({ frames := 1, cells := 0, slots := 0, locals := 20 } : Room) s m args below meth c D ad n (wX ad cI cJ cZ) 3 (QI D (wX ad cI cJ cZ) ad n args s below) (k x1 S) S 30 [(1, .int x1)] []) (rec : Int32 → Int32 → St → Option (Int32 × St)) (hrec : ∀ (x1 : Int32) (x2 : Int32) (S : St), GM p l e ({ frames := 1, cells := 0, slots := 0, locals := 20 } : Room) s m args below meth c D ad n (wX ad cI cJ cZ) 3 (QI D (wX ad cI cJ cZ) ad n args s below) (rec x1 x2 S) S 4 [(0, .ref (ad 1)), (1, .int x1), (2, .int x2)] []) (x1 : Int32) (x2 : Int32) (S : St) : GM p l e ({ frames := 1, cells := 0, slots := 0, locals := 20 } : Room) s m args below meth c D ad n (wX ad cI cJ cZ) 3 (QI D (wX ad cI cJ cZ) ad n args s below) (b_X5_allYears_4 k rec x1 x2 S) S 4 [(0, .ref (ad 1)), (1, .int x1), (2, .int x2)] [] := by
  unfold b_X5_allYears_4
  refine g_iload_n (pc := 4) C dX5_allYears_4 (i := 2) rfl 2 rfl ?_
  refine g_aload_n (pc := 5) C dX5_allYears_5 (i := 0) rfl 0 rfl ?_
  refine gt_X5_ground (pc := 6) C q132 dX5_allYears_6 ?_
  refine g_callVi (pc := 9) (As := []) C q341 mw_X1_cells (fun _ hz => c_X1_cells C.2.2.2.2.2.2.2.1 hz) ⟨Nat.le_of_ble_eq_true rfl, Nat.le_of_ble_eq_true rfl⟩ rfl rfl 2 rfl rfl rfl (Nat.le_of_ble_eq_true rfl) dX5_allYears_9 fun r2 S1 => ?_
  refine g_icmp_ge (pc := 12) (tgt := 30) C dX5_allYears_12 (by decide) ?_ ?_
  · refine g_sub [1] rfl (hk _ _)
  · refine g_iload_n (pc := 15) C dX5_allYears_15 (i := 1) rfl 1 rfl ?_
    refine g_aload_n (pc := 16) C dX5_allYears_16 (i := 0) rfl 0 rfl ?_
    refine gt_X5_cellYears (pc := 17) C q138 dX5_allYears_17 ?_
    refine g_iload_n (pc := 20) C dX5_allYears_20 (i := 2) rfl 2 rfl ?_
    refine al_X5_cellYears (pc := 21) C dX5_allYears_21 ?_
    refine g_iadd (pc := 22) C dX5_allYears_22 ?_
    refine g_nmi fun y3 => ?_
    refine g_istore_n (pc := 23) (i := 1) (lv2 := [(1, .int y3), (0, .ref (ad 1)), (2, .int x2)]) C dX5_allYears_23 rfl (by decide) rfl ?_
    refine g_iinc (pc := 24) (v := (x2 + 1)) (lv2 := [(2, .int (x2 + 1)), (1, .int y3), (0, .ref (ad 1))]) C dX5_allYears_24 2 rfl rfl (by decide) rfl ?_
    refine g_goto (pc := 27) (tgt := 4) C dX5_allYears_27 (by decide) ?_
    refine g_sub [2, 1, 0] rfl (hrec _ _ _)
set_option maxRecDepth 20000 in
theorem c_X5_allYears {l : Launch} {D : va_G} {ad : Nat → Nat} {cI cJ cZ : ClassId} {n : Nat} (hD : ∀ sz S, va_D (Adr ad n sz) (wX ad cI cJ cZ S)) {S : St} {z : Int32 × St} (hf : m_X5_allYears S = some z) : CtI l yX5_allYears cX5_allYears 3 (some .int) ({ frames := 1, cells := 0, slots := 0, locals := 20 } : Room) D (wX ad cI cJ cZ) (tyX cI cJ cZ) ad n [.ref (ad 1)] S z := by
  refine CtI.of hf (by decide +kernel) (Nat.le_of_ble_eq_true rfl) hD (fun p e s m args below meth c C hr => ?_)
  refine g_sub [0] (lv2 := [(0, .ref (ad 1))]) rfl ?_
  unfold m_X5_allYears
  refine g_iconst (pc := 0) (v := 0) C dX5_allYears_0 (by decide) ?_
  refine g_istore_n (pc := 1) (i := 1) (lv2 := [(1, .int (0 : Int32)), (0, .ref (ad 1))]) C dX5_allYears_1 rfl (by decide) rfl ?_
  refine g_iconst (pc := 2) (v := 0) C dX5_allYears_2 (by decide) ?_
  refine g_istore_n (pc := 3) (i := 2) (lv2 := [(2, .int (0 : Int32)), (1, .int (0 : Int32)), (0, .ref (ad 1))]) C dX5_allYears_3 rfl (by decide) rfl ?_
  refine g_sub [2, 1, 0] (lv2 := [(0, .ref (ad 1)), (1, .int (0 : Int32)), (2, .int (0 : Int32))]) rfl ?_
  refine g_it2 (pc := 4) (u_X5_allYears_4 C hr _ fun x1_S4 S4 => ?_) _ _ _ _
  refine g_iload_n (pc := 30) C dX5_allYears_30 (i := 1) rfl 0 rfl ?_
  exact g_iret (pc := 31) C hr dX5_allYears_31
noncomputable def b_X5_allDays_4 (k : Int32 → St → Option (Int32 × St)) (rec : Int32 → Int32 → St → Option (Int32 × St)) (x1 : Int32) (x2 : Int32) (S : St) : Option (Int32 × St) :=
if x2 < (4 : Int32) then (
chk x2 4 <|
nm ((x1 + (gI S 11 (ix x2)))) fun y1 =>
rec y1 (x2 + 1) S)
else
k x1 S
noncomputable def m_X5_allDays (S : St) : Option (Int32 × St) :=
it2 (b_X5_allDays_4 (fun x1_S2 S2 =>
some (x1_S2, S2))) 5000 (0 : Int32) (0 : Int32) S
set_option maxRecDepth 20000 in
theorem u_X5_allDays_4 (C : Cx p s m args meth c cX5_allDays 3 RX5 D (tyX cI cJ cZ) ad n (wX ad cI cJ cZ)) (hr : meth.sig.returnType = (some .int)) (k : Int32 → St → Option (Int32 × St)) (hk : ∀ (x1 : Int32) (S : St), GM p l e ({ frames := 0, cells := 0, slots := 0, locals := 0 } : Room) s m args below meth c D ad n (wX ad cI cJ cZ) 3 (QI D (wX ad cI cJ cZ) ad n args s below) (k x1 S) S 24 [(1, .int x1)] []) (rec : Int32 → Int32 → St → Option (Int32 × St)) (hrec : ∀ (x1 : Int32) (x2 : Int32) (S : St), GM p l e ({ frames := 0, cells := 0, slots := 0, locals := 0 } : Room) s m args below meth c D ad n (wX ad cI cJ cZ) 3 (QI D (wX ad cI cJ cZ) ad n args s below) (rec x1 x2 S) S 4 [(0, .ref (ad 1)), (1, .int x1), (2, .int x2)] []) (x1 : Int32) (x2 : Int32) (S : St) : GM p l e ({ frames := 0, cells := 0, slots := 0, locals := 0 } : Room) s m args below meth c D ad n (wX ad cI cJ cZ) 3 (QI D (wX ad cI cJ cZ) ad n args s below) (b_X5_allDays_4 k rec x1 x2 S) S 4 [(0, .ref (ad 1)), (1, .int x1), (2, .int x2)] [] := by
  unfold b_X5_allDays_4
  refine g_iload_n (pc := 4) C dX5_allDays_4 (i := 2) rfl 2 rfl ?_
  refine g_iconst (pc := 5) (v := 4) C dX5_allDays_5 (by decide) ?_
  refine g_icmp_ge (pc := 6) (tgt := 24) C dX5_allDays_6 (by decide) ?_ ?_
  · refine g_sub [1] rfl (hk _ _)
  · refine g_iload_n (pc := 9) C dX5_allDays_9 (i := 1) rfl 1 rfl ?_
    refine g_aload_n (pc := 10) C dX5_allDays_10 (i := 0) rfl 0 rfl ?_
    refine gt_X5_dayCounts (pc := 11) C q135 dX5_allDays_11 ?_
    refine g_iload_n (pc := 14) C dX5_allDays_14 (i := 2) rfl 2 rfl ?_
    refine al_X5_dayCounts (pc := 15) C dX5_allDays_15 ?_
    refine g_iadd (pc := 16) C dX5_allDays_16 ?_
    refine g_nmi fun y1 => ?_
    refine g_istore_n (pc := 17) (i := 1) (lv2 := [(1, .int y1), (0, .ref (ad 1)), (2, .int x2)]) C dX5_allDays_17 rfl (by decide) rfl ?_
    refine g_iinc (pc := 18) (v := (x2 + 1)) (lv2 := [(2, .int (x2 + 1)), (1, .int y1), (0, .ref (ad 1))]) C dX5_allDays_18 2 rfl rfl (by decide) rfl ?_
    refine g_goto (pc := 21) (tgt := 4) C dX5_allDays_21 (by decide) ?_
    refine g_sub [2, 1, 0] rfl (hrec _ _ _)
set_option maxRecDepth 20000 in
theorem c_X5_allDays {l : Launch} {D : va_G} {ad : Nat → Nat} {cI cJ cZ : ClassId} {n : Nat} (hD : ∀ sz S, va_D (Adr ad n sz) (wX ad cI cJ cZ S)) {S : St} {z : Int32 × St} (hf : m_X5_allDays S = some z) : CtI l yX5_allDays cX5_allDays 3 (some .int) ({ frames := 0, cells := 0, slots := 0, locals := 0 } : Room) D (wX ad cI cJ cZ) (tyX cI cJ cZ) ad n [.ref (ad 1)] S z := by
  refine CtI.of hf (by decide +kernel) (Nat.le_of_ble_eq_true rfl) hD (fun p e s m args below meth c C hr => ?_)
  refine g_sub [0] (lv2 := [(0, .ref (ad 1))]) rfl ?_
  unfold m_X5_allDays
  refine g_iconst (pc := 0) (v := 0) C dX5_allDays_0 (by decide) ?_
  refine g_istore_n (pc := 1) (i := 1) (lv2 := [(1, .int (0 : Int32)), (0, .ref (ad 1))]) C dX5_allDays_1 rfl (by decide) rfl ?_
  refine g_iconst (pc := 2) (v := 0) C dX5_allDays_2 (by decide) ?_
  refine g_istore_n (pc := 3) (i := 2) (lv2 := [(2, .int (0 : Int32)), (1, .int (0 : Int32)), (0, .ref (ad 1))]) C dX5_allDays_3 rfl (by decide) rfl ?_
  refine g_sub [2, 1, 0] (lv2 := [(0, .ref (ad 1)), (1, .int (0 : Int32)), (2, .int (0 : Int32))]) rfl ?_
  refine g_it2 (pc := 4) (u_X5_allDays_4 C hr _ fun x1_S2 S2 => ?_) _ _ _ _
  refine g_iload_n (pc := 24) C dX5_allDays_24 (i := 1) rfl 0 rfl ?_
  exact g_iret (pc := 25) C hr dX5_allDays_25
noncomputable def m_X6_count (x1 : Int32) (S : St) : Option (Int32 × St) :=
tsw x1 (0) (8) [(bnd (m_X1_cells S) fun r2 S1 =>
some (r2, S1)),
(bnd (m_X1_bytes S) fun r4 S3 =>
some (r4, S3)),
(bnd (m_X1_rows S) fun r6 S5 =>
some (r6, S5)),
(bnd (m_X6_countStanding S) fun r8 S7 =>
some (r8, S7)),
(bnd (m_X6_countOwners S) fun r10 S9 =>
some (r10, S9)),
(some ((gI S 54 0), S)),
(bnd (m_X5_allYears S) fun r12 S11 =>
some (r12, S11)),
(bnd (m_X5_allDays S) fun r14 S13 =>
some (r14, S13)),
(some ((gI S 55 0), S))] (some ((-2 : Int32), S))
set_option maxRecDepth 20000 in
theorem c_X6_count {l : Launch} {D : va_G} {ad : Nat → Nat} {cI cJ cZ : ClassId} {n : Nat} (hD : ∀ sz S, va_D (Adr ad n sz) (wX ad cI cJ cZ S)) {x1 : Int32} {S : St} {z : Int32 × St} (hf : m_X6_count x1 S = some z) : CtI l yX6_count cX6_count 2 (some .int) ({ frames := 2, cells := 0, slots := 0, locals := 43 } : Room) D (wX ad cI cJ cZ) (tyX cI cJ cZ) ad n [.ref (ad 0), .int x1] S z := by
  refine CtI.of hf (by decide +kernel) (Nat.le_of_ble_eq_true rfl) hD (fun p e s m args below meth c C hr => ?_)
  refine g_sub [0, 1] (lv2 := [(0, .ref (ad 0)), (1, .int x1)]) rfl ?_
  unfold m_X6_count
  refine g_iload_n (pc := 0) C dX6_count_0 (i := 1) rfl 1 rfl ?_
  refine g_tsw (pc := 1) (tgt := 112) C dX6_count_1 (by decide) rfl [52, 60, 68, 76, 81, 86, 91, 99, 107] ?_ ?_ ⟨?_, ?_, ?_, ?_, ?_, ?_, ?_, ?_, ?_, trivial⟩
  · intro j hj
    rcases (show j = 0 ∨ j = 1 ∨ j = 2 ∨ j = 3 ∨ j = 4 ∨ j = 5 ∨ j = 6 ∨ j = 7 ∨ j = 8 by simp only [List.length_cons, List.length_nil] at hj; omega) with rfl | rfl | rfl | rfl | rfl | rfl | rfl | rfl | rfl <;> exact ⟨_, rfl, by decide⟩
  · refine g_bipush (pc := 112) (v := -2) C dX6_count_112 (by decide) ?_
    exact g_iret (pc := 114) C hr dX6_count_114
  · dsimp only
    refine g_aload_n (pc := 52) C dX6_count_52 (i := 0) rfl 0 rfl ?_
    refine gt_X6_ground (pc := 53) C q248 dX6_count_53 ?_
    refine g_callVi (pc := 56) (As := []) C q399 mw_X1_cells (fun _ hz => c_X1_cells C.2.2.2.2.2.2.2.1 hz) ⟨Nat.le_of_ble_eq_true rfl, Nat.le_of_ble_eq_true rfl⟩ rfl rfl 2 rfl rfl rfl (Nat.le_of_ble_eq_true rfl) dX6_count_56 fun r2 S1 => ?_
    exact g_iret (pc := 59) C hr dX6_count_59
  · dsimp only
    refine g_aload_n (pc := 60) C dX6_count_60 (i := 0) rfl 0 rfl ?_
    refine gt_X6_ground (pc := 61) C q248 dX6_count_61 ?_
    refine g_callVi (pc := 64) (As := []) C q371 mw_X1_bytes (fun _ hz => c_X1_bytes C.2.2.2.2.2.2.2.1 hz) ⟨Nat.le_of_ble_eq_true rfl, Nat.le_of_ble_eq_true rfl⟩ rfl rfl 2 rfl rfl rfl (Nat.le_of_ble_eq_true rfl) dX6_count_64 fun r4 S3 => ?_
    exact g_iret (pc := 67) C hr dX6_count_67
  · dsimp only
    refine g_aload_n (pc := 68) C dX6_count_68 (i := 0) rfl 0 rfl ?_
    refine gt_X6_ground (pc := 69) C q248 dX6_count_69 ?_
    refine g_callVi (pc := 72) (As := []) C q815 mw_X1_rows (fun _ hz => c_X1_rows C.2.2.2.2.2.2.2.1 hz) ⟨Nat.le_of_ble_eq_true rfl, Nat.le_of_ble_eq_true rfl⟩ rfl rfl 2 rfl rfl rfl (Nat.le_of_ble_eq_true rfl) dX6_count_72 fun r6 S5 => ?_
    exact g_iret (pc := 75) C hr dX6_count_75
  · dsimp only
    refine g_aload_n (pc := 76) C dX6_count_76 (i := 0) rfl 0 rfl ?_
    refine g_callVi (pc := 77) (As := []) C q819 mw_X6_countStanding (fun _ hz => c_X6_countStanding C.2.2.2.2.2.2.2.1 hz) ⟨Nat.le_of_ble_eq_true rfl, Nat.le_of_ble_eq_true rfl⟩ rfl rfl 0 rfl rfl rfl (Nat.le_of_ble_eq_true rfl) dX6_count_77 fun r8 S7 => ?_
    exact g_iret (pc := 80) C hr dX6_count_80
  · dsimp only
    refine g_aload_n (pc := 81) C dX6_count_81 (i := 0) rfl 0 rfl ?_
    refine g_callVi (pc := 82) (As := []) C q823 mw_X6_countOwners (fun _ hz => c_X6_countOwners C.2.2.2.2.2.2.2.1 hz) ⟨Nat.le_of_ble_eq_true rfl, Nat.le_of_ble_eq_true rfl⟩ rfl rfl 0 rfl rfl rfl (Nat.le_of_ble_eq_true rfl) dX6_count_82 fun r10 S9 => ?_
    exact g_iret (pc := 85) C hr dX6_count_85
  · dsimp only
    refine g_aload_n (pc := 86) C dX6_count_86 (i := 0) rfl 0 rfl ?_
    refine gt_X6_seenCount (pc := 87) C q260 dX6_count_87 ?_
    exact g_iret (pc := 90) C hr dX6_count_90
  · dsimp only
    refine g_aload_n (pc := 91) C dX6_count_91 (i := 0) rfl 0 rfl ?_
    refine gt_X6_sun (pc := 92) C q247 dX6_count_92 ?_
    refine g_callVi (pc := 95) (As := []) C q827 mw_X5_allYears (fun _ hz => c_X5_allYears C.2.2.2.2.2.2.2.1 hz) ⟨Nat.le_of_ble_eq_true rfl, Nat.le_of_ble_eq_true rfl⟩ rfl rfl 1 rfl rfl rfl (Nat.le_of_ble_eq_true rfl) dX6_count_95 fun r12 S11 => ?_
    exact g_iret (pc := 98) C hr dX6_count_98
  · dsimp only
    refine g_aload_n (pc := 99) C dX6_count_99 (i := 0) rfl 0 rfl ?_
    refine gt_X6_sun (pc := 100) C q247 dX6_count_100 ?_
    refine g_callVi (pc := 103) (As := []) C q831 mw_X5_allDays (fun _ hz => c_X5_allDays C.2.2.2.2.2.2.2.1 hz) ⟨Nat.le_of_ble_eq_true rfl, Nat.le_of_ble_eq_true rfl⟩ rfl rfl 1 rfl rfl rfl (Nat.le_of_ble_eq_true rfl) dX6_count_103 fun r14 S13 => ?_
    exact g_iret (pc := 106) C hr dX6_count_106
  · dsimp only
    refine g_aload_n (pc := 107) C dX6_count_107 (i := 0) rfl 0 rfl ?_
    refine gt_X6_latestFinding (pc := 108) C q261 dX6_count_108 ?_
    exact g_iret (pc := 111) C hr dX6_count_111
noncomputable def m_X6_mix (x0 : Int64) (x2 : Int64) (S : St) : Option (Int64 × St) :=
some ((((31 : Int64) * x0) + x2), S)
set_option maxRecDepth 20000 in
theorem c_X6_mix {l : Launch} {D : va_G} {ad : Nat → Nat} {cI cJ cZ : ClassId} {n : Nat} (hD : ∀ sz S, va_D (Adr ad n sz) (wX ad cI cJ cZ S)) {x0 : Int64} {x2 : Int64} {S : St} {z : Int64 × St} (hf : m_X6_mix x0 x2 S = some z) : CtL l yX6_mix cX6_mix 4 (some .long) ({ frames := 0, cells := 0, slots := 0, locals := 0 } : Room) D (wX ad cI cJ cZ) (tyX cI cJ cZ) ad n [.long x0, .long x2] S z := by
  refine CtL.of hf (by decide +kernel) (Nat.le_of_ble_eq_true rfl) hD (fun p e s m args below meth c C hr => ?_)
  refine g_sub [0, 1] (lv2 := [(0, .long x0), (2, .long x2)]) rfl ?_
  unfold m_X6_mix
  refine g_ldc2 (pc := 0) C q844 dX6_mix_0 ?_
  refine g_lload_n (pc := 3) C dX6_mix_3 (i := 0) rfl 0 rfl ?_
  refine g_lmul (pc := 4) C dX6_mix_4 ?_
  refine g_lload_n (pc := 5) C dX6_mix_5 (i := 2) rfl 1 rfl ?_
  refine g_ladd (pc := 6) C dX6_mix_6 ?_
  exact g_lret (pc := 7) C hr dX6_mix_7
noncomputable def b_X6_mixCell_6 (x3 : Int32) (k : Int64 → St → Option (Int64 × St)) (rec : Int64 → Int32 → St → Option (Int64 × St)) (x4 : Int64) (x6 : Int32) (S : St) : Option (Int64 × St) :=
if x6 < (3 : Int32) then (
bnd (m_X6_cell x3 x6 S) fun r2 S1 =>
bnd (m_X6_mix x4 (r2).toInt64 S1) fun r4 S3 =>
rec r4 (x6 + 1) S3)
else
k x4 S
noncomputable def b_X6_mixCell_36 (x3 : Int32) (k : Int64 → St → Option (Int64 × St)) (rec : Int64 → Int32 → St → Option (Int64 × St)) (x4 : Int64) (x6 : Int32) (S : St) : Option (Int64 × St) :=
if x6 < (4 : Int32) then (
bnd (m_X6_light x3 x6 S) fun r7 S6 =>
bnd (m_X6_mix x4 (r7).toInt64 S6) fun r9 S8 =>
rec r9 (x6 + 1) S8)
else
k x4 S
noncomputable def m_X6_mixCell (x1 : Int64) (x3 : Int32) (S : St) : Option (Int64 × St) :=
it2 (b_X6_mixCell_6 x3 (fun x4_S5 S5 =>
it2 (b_X6_mixCell_36 x3 (fun x4_S10 S10 =>
bnd (m_X6_hours x3 (-1 : Int32) S10) fun r12 S11 =>
bnd (m_X6_mix x4_S10 (r12).toInt64 S11) fun r14 S13 =>
bnd (m_X6_shade x3 (0 : Int32) (3 : Int32) S13) fun r16 S15 =>
bnd (m_X6_mix r14 (r16).toInt64 S15) fun r18 S17 =>
bnd (m_X6_value x3 (1 : Int32) S17) fun r20 S19 =>
bnd (m_X6_mix r18 (r20).toInt64 S19) fun r22 S21 =>
bnd (m_X6_highest x3 (500 : Int32) S21) fun r24 S23 =>
bnd (m_X6_mix r22 (r24).toInt64 S23) fun r26 S25 =>
bnd (m_X6_set x3 S25) fun r28 S27 =>
bnd (m_X6_mix r26 (r28).toInt64 S27) fun r30 S29 =>
some (r30, S29))) 5000 x4_S5 (0 : Int32) S5)) 5000 x1 (0 : Int32) S
set_option maxRecDepth 20000 in
theorem u_X6_mixCell_6 (C : Cx p s m args meth c cX6_mixCell 7 RX6 D (tyX cI cJ cZ) ad n (wX ad cI cJ cZ)) (hr : meth.sig.returnType = (some .long)) (x3 : Int32) (k : Int64 → St → Option (Int64 × St)) (hk : ∀ (x4 : Int64) (S : St), GM p l e ({ frames := 5, cells := 0, slots := 0, locals := 124 } : Room) s m args below meth c D ad n (wX ad cI cJ cZ) 7 (QL D (wX ad cI cJ cZ) ad n args s below) (k x4 S) S 33 [(0, .ref (ad 0)), (3, .int x3), (4, .long x4)] []) (rec : Int64 → Int32 → St → Option (Int64 × St)) (hrec : ∀ (x4 : Int64) (x6 : Int32) (S : St), GM p l e ({ frames := 5, cells := 0, slots := 0, locals := 124 } : Room) s m args below meth c D ad n (wX ad cI cJ cZ) 7 (QL D (wX ad cI cJ cZ) ad n args s below) (rec x4 x6 S) S 6 [(0, .ref (ad 0)), (3, .int x3), (4, .long x4), (6, .int x6)] []) (x4 : Int64) (x6 : Int32) (S : St) : GM p l e ({ frames := 5, cells := 0, slots := 0, locals := 124 } : Room) s m args below meth c D ad n (wX ad cI cJ cZ) 7 (QL D (wX ad cI cJ cZ) ad n args s below) (b_X6_mixCell_6 x3 k rec x4 x6 S) S 6 [(0, .ref (ad 0)), (3, .int x3), (4, .long x4), (6, .int x6)] [] := by
  unfold b_X6_mixCell_6
  refine g_iload (pc := 6) C dX6_mixCell_6 3 rfl ?_
  refine g_iconst (pc := 8) (v := 3) C dX6_mixCell_8 (by decide) ?_
  refine g_icmp_ge (pc := 9) (tgt := 33) C dX6_mixCell_9 (by decide) ?_ ?_
  · refine g_sub [0, 1, 2] rfl (hk _ _)
  · refine g_lload (pc := 12) C dX6_mixCell_12 2 rfl ?_
    refine g_aload_n (pc := 14) C dX6_mixCell_14 (i := 0) rfl 0 rfl ?_
    refine g_iload_n (pc := 15) C dX6_mixCell_15 (i := 3) rfl 1 rfl ?_
    refine g_iload (pc := 16) C dX6_mixCell_16 3 rfl ?_
    refine g_callVi (pc := 18) (As := [.int _, .int _]) C q850 mw_X6_cell (fun _ hz => c_X6_cell C.2.2.2.2.2.2.2.1 hz) ⟨Nat.le_of_ble_eq_true rfl, Nat.le_of_ble_eq_true rfl⟩ rfl rfl 0 rfl rfl rfl (Nat.le_of_ble_eq_true rfl) dX6_mixCell_18 fun r2 S1 => ?_
    refine g_i2l (pc := 21) C dX6_mixCell_21 ?_
    refine g_callSl (pc := 22) (As := [.long _, .long _]) C q841 mw_X6_mix (fun _ hz => c_X6_mix C.2.2.2.2.2.2.2.1 hz) ⟨Nat.le_of_ble_eq_true rfl, Nat.le_of_ble_eq_true rfl⟩ rfl rfl rfl (Nat.le_of_ble_eq_true rfl) dX6_mixCell_22 fun r4 S3 => ?_
    refine g_lstore (pc := 25) (i := 4) (j := 0) (lv2 := [(4, .long r4), (0, .ref (ad 0)), (3, .int x3), (6, .int x6)]) C dX6_mixCell_25 (by decide) rfl ?_
    refine g_iinc (pc := 27) (v := (x6 + 1)) (lv2 := [(6, .int (x6 + 1)), (4, .long r4), (0, .ref (ad 0)), (3, .int x3)]) C dX6_mixCell_27 3 rfl rfl (by decide) rfl ?_
    refine g_goto (pc := 30) (tgt := 6) C dX6_mixCell_30 (by decide) ?_
    refine g_sub [2, 3, 1, 0] rfl (hrec _ _ _)
set_option maxRecDepth 20000 in
theorem u_X6_mixCell_36 (C : Cx p s m args meth c cX6_mixCell 7 RX6 D (tyX cI cJ cZ) ad n (wX ad cI cJ cZ)) (hr : meth.sig.returnType = (some .long)) (x3 : Int32) (k : Int64 → St → Option (Int64 × St)) (hk : ∀ (x4 : Int64) (S : St), GM p l e ({ frames := 5, cells := 0, slots := 0, locals := 124 } : Room) s m args below meth c D ad n (wX ad cI cJ cZ) 7 (QL D (wX ad cI cJ cZ) ad n args s below) (k x4 S) S 63 [(0, .ref (ad 0)), (3, .int x3), (4, .long x4)] []) (rec : Int64 → Int32 → St → Option (Int64 × St)) (hrec : ∀ (x4 : Int64) (x6 : Int32) (S : St), GM p l e ({ frames := 5, cells := 0, slots := 0, locals := 124 } : Room) s m args below meth c D ad n (wX ad cI cJ cZ) 7 (QL D (wX ad cI cJ cZ) ad n args s below) (rec x4 x6 S) S 36 [(0, .ref (ad 0)), (3, .int x3), (4, .long x4), (6, .int x6)] []) (x4 : Int64) (x6 : Int32) (S : St) : GM p l e ({ frames := 5, cells := 0, slots := 0, locals := 124 } : Room) s m args below meth c D ad n (wX ad cI cJ cZ) 7 (QL D (wX ad cI cJ cZ) ad n args s below) (b_X6_mixCell_36 x3 k rec x4 x6 S) S 36 [(0, .ref (ad 0)), (3, .int x3), (4, .long x4), (6, .int x6)] [] := by
  unfold b_X6_mixCell_36
  refine g_iload (pc := 36) C dX6_mixCell_36 3 rfl ?_
  refine g_iconst (pc := 38) (v := 4) C dX6_mixCell_38 (by decide) ?_
  refine g_icmp_ge (pc := 39) (tgt := 63) C dX6_mixCell_39 (by decide) ?_ ?_
  · refine g_sub [0, 1, 2] rfl (hk _ _)
  · refine g_lload (pc := 42) C dX6_mixCell_42 2 rfl ?_
    refine g_aload_n (pc := 44) C dX6_mixCell_44 (i := 0) rfl 0 rfl ?_
    refine g_iload_n (pc := 45) C dX6_mixCell_45 (i := 3) rfl 1 rfl ?_
    refine g_iload (pc := 46) C dX6_mixCell_46 3 rfl ?_
    refine g_callVi (pc := 48) (As := [.int _, .int _]) C q851 mw_X6_light (fun _ hz => c_X6_light C.2.2.2.2.2.2.2.1 hz) ⟨Nat.le_of_ble_eq_true rfl, Nat.le_of_ble_eq_true rfl⟩ rfl rfl 0 rfl rfl rfl (Nat.le_of_ble_eq_true rfl) dX6_mixCell_48 fun r7 S6 => ?_
    refine g_i2l (pc := 51) C dX6_mixCell_51 ?_
    refine g_callSl (pc := 52) (As := [.long _, .long _]) C q841 mw_X6_mix (fun _ hz => c_X6_mix C.2.2.2.2.2.2.2.1 hz) ⟨Nat.le_of_ble_eq_true rfl, Nat.le_of_ble_eq_true rfl⟩ rfl rfl rfl (Nat.le_of_ble_eq_true rfl) dX6_mixCell_52 fun r9 S8 => ?_
    refine g_lstore (pc := 55) (i := 4) (j := 0) (lv2 := [(4, .long r9), (0, .ref (ad 0)), (3, .int x3), (6, .int x6)]) C dX6_mixCell_55 (by decide) rfl ?_
    refine g_iinc (pc := 57) (v := (x6 + 1)) (lv2 := [(6, .int (x6 + 1)), (4, .long r9), (0, .ref (ad 0)), (3, .int x3)]) C dX6_mixCell_57 3 rfl rfl (by decide) rfl ?_
    refine g_goto (pc := 60) (tgt := 36) C dX6_mixCell_60 (by decide) ?_
    refine g_sub [2, 3, 1, 0] rfl (hrec _ _ _)
set_option maxRecDepth 20000 in
theorem c_X6_mixCell {l : Launch} {D : va_G} {ad : Nat → Nat} {cI cJ cZ : ClassId} {n : Nat} (hD : ∀ sz S, va_D (Adr ad n sz) (wX ad cI cJ cZ S)) {x1 : Int64} {x3 : Int32} {S : St} {z : Int64 × St} (hf : m_X6_mixCell x1 x3 S = some z) : CtL l yX6_mixCell cX6_mixCell 7 (some .long) ({ frames := 5, cells := 0, slots := 0, locals := 124 } : Room) D (wX ad cI cJ cZ) (tyX cI cJ cZ) ad n [.ref (ad 0), .long x1, .int x3] S z := by
  refine CtL.of hf (by decide +kernel) (Nat.le_of_ble_eq_true rfl) hD (fun p e s m args below meth c C hr => ?_)
  refine g_sub [0, 1, 2] (lv2 := [(0, .ref (ad 0)), (1, .long x1), (3, .int x3)]) rfl ?_
  unfold m_X6_mixCell
  refine g_lload_n (pc := 0) C dX6_mixCell_0 (i := 1) rfl 1 rfl ?_
  refine g_lstore (pc := 1) (i := 4) (j := 0) (lv2 := [(4, .long x1), (0, .ref (ad 0)), (1, .long x1), (3, .int x3)]) C dX6_mixCell_1 (by decide) rfl ?_
  refine g_iconst (pc := 3) (v := 0) C dX6_mixCell_3 (by decide) ?_
  refine g_istore (pc := 4) (i := 6) (j := 0) (lv2 := [(6, .int (0 : Int32)), (4, .long x1), (0, .ref (ad 0)), (1, .long x1), (3, .int x3)]) C dX6_mixCell_4 (by decide) rfl ?_
  refine g_sub [2, 4, 1, 0] (lv2 := [(0, .ref (ad 0)), (3, .int x3), (4, .long x1), (6, .int (0 : Int32))]) rfl ?_
  refine g_it2 (pc := 6) (u_X6_mixCell_6 C hr _ _ fun x4_S5 S5 => ?_) _ _ _ _
  refine g_iconst (pc := 33) (v := 0) C dX6_mixCell_33 (by decide) ?_
  refine g_istore (pc := 34) (i := 6) (j := 0) (lv2 := [(6, .int (0 : Int32)), (0, .ref (ad 0)), (3, .int x3), (4, .long x4_S5)]) C dX6_mixCell_34 (by decide) rfl ?_
  refine g_sub [1, 2, 3, 0] (lv2 := [(0, .ref (ad 0)), (3, .int x3), (4, .long x4_S5), (6, .int (0 : Int32))]) rfl ?_
  refine g_it2 (pc := 36) (u_X6_mixCell_36 C hr _ _ fun x4_S10 S10 => ?_) _ _ _ _
  refine g_lload (pc := 63) C dX6_mixCell_63 2 rfl ?_
  refine g_aload_n (pc := 65) C dX6_mixCell_65 (i := 0) rfl 0 rfl ?_
  refine g_iload_n (pc := 66) C dX6_mixCell_66 (i := 3) rfl 1 rfl ?_
  refine g_iconst (pc := 67) (v := -1) C dX6_mixCell_67 (by decide) ?_
  refine g_callVi (pc := 68) (As := [.int _, .int _]) C q852 mw_X6_hours (fun _ hz => c_X6_hours C.2.2.2.2.2.2.2.1 hz) ⟨Nat.le_of_ble_eq_true rfl, Nat.le_of_ble_eq_true rfl⟩ rfl rfl 0 rfl rfl rfl (Nat.le_of_ble_eq_true rfl) dX6_mixCell_68 fun r12 S11 => ?_
  refine g_i2l (pc := 71) C dX6_mixCell_71 ?_
  refine g_callSl (pc := 72) (As := [.long _, .long _]) C q841 mw_X6_mix (fun _ hz => c_X6_mix C.2.2.2.2.2.2.2.1 hz) ⟨Nat.le_of_ble_eq_true rfl, Nat.le_of_ble_eq_true rfl⟩ rfl rfl rfl (Nat.le_of_ble_eq_true rfl) dX6_mixCell_72 fun r14 S13 => ?_
  refine g_lstore (pc := 75) (i := 4) (j := 0) (lv2 := [(4, .long r14), (0, .ref (ad 0)), (3, .int x3)]) C dX6_mixCell_75 (by decide) rfl ?_
  refine g_lload (pc := 77) C dX6_mixCell_77 0 rfl ?_
  refine g_aload_n (pc := 79) C dX6_mixCell_79 (i := 0) rfl 1 rfl ?_
  refine g_iload_n (pc := 80) C dX6_mixCell_80 (i := 3) rfl 2 rfl ?_
  refine g_iconst (pc := 81) (v := 0) C dX6_mixCell_81 (by decide) ?_
  refine g_iconst (pc := 82) (v := 3) C dX6_mixCell_82 (by decide) ?_
  refine g_callVi (pc := 83) (As := [.int _, .int _, .int _]) C q853 mw_X6_shade (fun _ hz => c_X6_shade C.2.2.2.2.2.2.2.1 hz) ⟨Nat.le_of_ble_eq_true rfl, Nat.le_of_ble_eq_true rfl⟩ rfl rfl 0 rfl rfl rfl (Nat.le_of_ble_eq_true rfl) dX6_mixCell_83 fun r16 S15 => ?_
  refine g_i2l (pc := 86) C dX6_mixCell_86 ?_
  refine g_callSl (pc := 87) (As := [.long _, .long _]) C q841 mw_X6_mix (fun _ hz => c_X6_mix C.2.2.2.2.2.2.2.1 hz) ⟨Nat.le_of_ble_eq_true rfl, Nat.le_of_ble_eq_true rfl⟩ rfl rfl rfl (Nat.le_of_ble_eq_true rfl) dX6_mixCell_87 fun r18 S17 => ?_
  refine g_lstore (pc := 90) (i := 4) (j := 0) (lv2 := [(4, .long r18), (0, .ref (ad 0)), (3, .int x3)]) C dX6_mixCell_90 (by decide) rfl ?_
  refine g_lload (pc := 92) C dX6_mixCell_92 0 rfl ?_
  refine g_aload_n (pc := 94) C dX6_mixCell_94 (i := 0) rfl 1 rfl ?_
  refine g_iload_n (pc := 95) C dX6_mixCell_95 (i := 3) rfl 2 rfl ?_
  refine g_iconst (pc := 96) (v := 1) C dX6_mixCell_96 (by decide) ?_
  refine g_callVi (pc := 97) (As := [.int _, .int _]) C q854 mw_X6_value (fun _ hz => c_X6_value C.2.2.2.2.2.2.2.1 hz) ⟨Nat.le_of_ble_eq_true rfl, Nat.le_of_ble_eq_true rfl⟩ rfl rfl 0 rfl rfl rfl (Nat.le_of_ble_eq_true rfl) dX6_mixCell_97 fun r20 S19 => ?_
  refine g_i2l (pc := 100) C dX6_mixCell_100 ?_
  refine g_callSl (pc := 101) (As := [.long _, .long _]) C q841 mw_X6_mix (fun _ hz => c_X6_mix C.2.2.2.2.2.2.2.1 hz) ⟨Nat.le_of_ble_eq_true rfl, Nat.le_of_ble_eq_true rfl⟩ rfl rfl rfl (Nat.le_of_ble_eq_true rfl) dX6_mixCell_101 fun r22 S21 => ?_
  refine g_lstore (pc := 104) (i := 4) (j := 0) (lv2 := [(4, .long r22), (0, .ref (ad 0)), (3, .int x3)]) C dX6_mixCell_104 (by decide) rfl ?_
  refine g_lload (pc := 106) C dX6_mixCell_106 0 rfl ?_
  refine g_aload_n (pc := 108) C dX6_mixCell_108 (i := 0) rfl 1 rfl ?_
  refine g_iload_n (pc := 109) C dX6_mixCell_109 (i := 3) rfl 2 rfl ?_
  refine g_sipush (pc := 110) (v := 500) C dX6_mixCell_110 (by decide) ?_
  refine g_callVi (pc := 113) (As := [.int _, .int _]) C q855 mw_X6_highest (fun _ hz => c_X6_highest C.2.2.2.2.2.2.2.1 hz) ⟨Nat.le_of_ble_eq_true rfl, Nat.le_of_ble_eq_true rfl⟩ rfl rfl 0 rfl rfl rfl (Nat.le_of_ble_eq_true rfl) dX6_mixCell_113 fun r24 S23 => ?_
  refine g_i2l (pc := 116) C dX6_mixCell_116 ?_
  refine g_callSl (pc := 117) (As := [.long _, .long _]) C q841 mw_X6_mix (fun _ hz => c_X6_mix C.2.2.2.2.2.2.2.1 hz) ⟨Nat.le_of_ble_eq_true rfl, Nat.le_of_ble_eq_true rfl⟩ rfl rfl rfl (Nat.le_of_ble_eq_true rfl) dX6_mixCell_117 fun r26 S25 => ?_
  refine g_lstore (pc := 120) (i := 4) (j := 0) (lv2 := [(4, .long r26), (0, .ref (ad 0)), (3, .int x3)]) C dX6_mixCell_120 (by decide) rfl ?_
  refine g_lload (pc := 122) C dX6_mixCell_122 0 rfl ?_
  refine g_aload_n (pc := 124) C dX6_mixCell_124 (i := 0) rfl 1 rfl ?_
  refine g_iload_n (pc := 125) C dX6_mixCell_125 (i := 3) rfl 2 rfl ?_
  refine g_callVi (pc := 126) (As := [.int _]) C q856 mw_X6_set (fun _ hz => c_X6_set C.2.2.2.2.2.2.2.1 hz) ⟨Nat.le_of_ble_eq_true rfl, Nat.le_of_ble_eq_true rfl⟩ rfl rfl 0 rfl rfl rfl (Nat.le_of_ble_eq_true rfl) dX6_mixCell_126 fun r28 S27 => ?_
  refine g_i2l (pc := 129) C dX6_mixCell_129 ?_
  refine g_callSl (pc := 130) (As := [.long _, .long _]) C q841 mw_X6_mix (fun _ hz => c_X6_mix C.2.2.2.2.2.2.2.1 hz) ⟨Nat.le_of_ble_eq_true rfl, Nat.le_of_ble_eq_true rfl⟩ rfl rfl rfl (Nat.le_of_ble_eq_true rfl) dX6_mixCell_130 fun r30 S29 => ?_
  exact g_lret (pc := 133) C hr dX6_mixCell_133
noncomputable def m_X6_mixChances (x1 : Int64) (x3 : Int32) (S : St) : Option (Int64 × St) :=
bnd (m_X6_clear x3 (2 : Int32) (-1 : Int32) (0 : Int32) S) fun r2 S1 =>
bnd (m_X6_mix x1 r2 S1) fun r4 S3 =>
bnd (m_X6_clear x3 (2 : Int32) (-1 : Int32) (1 : Int32) S3) fun r6 S5 =>
bnd (m_X6_mix r4 r6 S5) fun r8 S7 =>
bnd (m_X6_clear x3 (2 : Int32) (3 : Int32) (0 : Int32) S7) fun r10 S9 =>
bnd (m_X6_mix r8 r10 S9) fun r12 S11 =>
bnd (m_X6_clear x3 (2 : Int32) (3 : Int32) (1 : Int32) S11) fun r14 S13 =>
bnd (m_X6_mix r12 r14 S13) fun r16 S15 =>
some (r16, S15)
set_option maxRecDepth 20000 in
theorem c_X6_mixChances {l : Launch} {D : va_G} {ad : Nat → Nat} {cI cJ cZ : ClassId} {n : Nat} (hD : ∀ sz S, va_D (Adr ad n sz) (wX ad cI cJ cZ S)) {x1 : Int64} {x3 : Int32} {S : St} {z : Int64 × St} (hf : m_X6_mixChances x1 x3 S = some z) : CtL l yX6_mixChances cX6_mixChances 6 (some .long) ({ frames := 4, cells := 0, slots := 0, locals := 97 } : Room) D (wX ad cI cJ cZ) (tyX cI cJ cZ) ad n [.ref (ad 0), .long x1, .int x3] S z := by
  refine CtL.of hf (by decide +kernel) (Nat.le_of_ble_eq_true rfl) hD (fun p e s m args below meth c C hr => ?_)
  refine g_sub [0, 1, 2] (lv2 := [(0, .ref (ad 0)), (1, .long x1), (3, .int x3)]) rfl ?_
  unfold m_X6_mixChances
  refine g_lload_n (pc := 0) C dX6_mixChances_0 (i := 1) rfl 1 rfl ?_
  refine g_aload_n (pc := 1) C dX6_mixChances_1 (i := 0) rfl 0 rfl ?_
  refine g_iload_n (pc := 2) C dX6_mixChances_2 (i := 3) rfl 2 rfl ?_
  refine g_iconst (pc := 3) (v := 2) C dX6_mixChances_3 (by decide) ?_
  refine g_iconst (pc := 4) (v := -1) C dX6_mixChances_4 (by decide) ?_
  refine g_iconst (pc := 5) (v := 0) C dX6_mixChances_5 (by decide) ?_
  refine g_callVl (pc := 6) (As := [.int _, .int _, .int _, .int _]) C q861 mw_X6_clear (fun _ hz => c_X6_clear C.2.2.2.2.2.2.2.1 hz) ⟨Nat.le_of_ble_eq_true rfl, Nat.le_of_ble_eq_true rfl⟩ rfl rfl 0 rfl rfl rfl (Nat.le_of_ble_eq_true rfl) dX6_mixChances_6 fun r2 S1 => ?_
  refine g_callSl (pc := 9) (As := [.long _, .long _]) C q841 mw_X6_mix (fun _ hz => c_X6_mix C.2.2.2.2.2.2.2.1 hz) ⟨Nat.le_of_ble_eq_true rfl, Nat.le_of_ble_eq_true rfl⟩ rfl rfl rfl (Nat.le_of_ble_eq_true rfl) dX6_mixChances_9 fun r4 S3 => ?_
  refine g_lstore (pc := 12) (i := 4) (j := 0) (lv2 := [(4, .long r4), (0, .ref (ad 0)), (1, .long x1), (3, .int x3)]) C dX6_mixChances_12 (by decide) rfl ?_
  refine g_lload (pc := 14) C dX6_mixChances_14 0 rfl ?_
  refine g_aload_n (pc := 16) C dX6_mixChances_16 (i := 0) rfl 1 rfl ?_
  refine g_iload_n (pc := 17) C dX6_mixChances_17 (i := 3) rfl 3 rfl ?_
  refine g_iconst (pc := 18) (v := 2) C dX6_mixChances_18 (by decide) ?_
  refine g_iconst (pc := 19) (v := -1) C dX6_mixChances_19 (by decide) ?_
  refine g_iconst (pc := 20) (v := 1) C dX6_mixChances_20 (by decide) ?_
  refine g_callVl (pc := 21) (As := [.int _, .int _, .int _, .int _]) C q861 mw_X6_clear (fun _ hz => c_X6_clear C.2.2.2.2.2.2.2.1 hz) ⟨Nat.le_of_ble_eq_true rfl, Nat.le_of_ble_eq_true rfl⟩ rfl rfl 0 rfl rfl rfl (Nat.le_of_ble_eq_true rfl) dX6_mixChances_21 fun r6 S5 => ?_
  refine g_callSl (pc := 24) (As := [.long _, .long _]) C q841 mw_X6_mix (fun _ hz => c_X6_mix C.2.2.2.2.2.2.2.1 hz) ⟨Nat.le_of_ble_eq_true rfl, Nat.le_of_ble_eq_true rfl⟩ rfl rfl rfl (Nat.le_of_ble_eq_true rfl) dX6_mixChances_24 fun r8 S7 => ?_
  refine g_lstore (pc := 27) (i := 4) (j := 0) (lv2 := [(4, .long r8), (0, .ref (ad 0)), (1, .long x1), (3, .int x3)]) C dX6_mixChances_27 (by decide) rfl ?_
  refine g_lload (pc := 29) C dX6_mixChances_29 0 rfl ?_
  refine g_aload_n (pc := 31) C dX6_mixChances_31 (i := 0) rfl 1 rfl ?_
  refine g_iload_n (pc := 32) C dX6_mixChances_32 (i := 3) rfl 3 rfl ?_
  refine g_iconst (pc := 33) (v := 2) C dX6_mixChances_33 (by decide) ?_
  refine g_iconst (pc := 34) (v := 3) C dX6_mixChances_34 (by decide) ?_
  refine g_iconst (pc := 35) (v := 0) C dX6_mixChances_35 (by decide) ?_
  refine g_callVl (pc := 36) (As := [.int _, .int _, .int _, .int _]) C q861 mw_X6_clear (fun _ hz => c_X6_clear C.2.2.2.2.2.2.2.1 hz) ⟨Nat.le_of_ble_eq_true rfl, Nat.le_of_ble_eq_true rfl⟩ rfl rfl 0 rfl rfl rfl (Nat.le_of_ble_eq_true rfl) dX6_mixChances_36 fun r10 S9 => ?_
  refine g_callSl (pc := 39) (As := [.long _, .long _]) C q841 mw_X6_mix (fun _ hz => c_X6_mix C.2.2.2.2.2.2.2.1 hz) ⟨Nat.le_of_ble_eq_true rfl, Nat.le_of_ble_eq_true rfl⟩ rfl rfl rfl (Nat.le_of_ble_eq_true rfl) dX6_mixChances_39 fun r12 S11 => ?_
  refine g_lstore (pc := 42) (i := 4) (j := 0) (lv2 := [(4, .long r12), (0, .ref (ad 0)), (1, .long x1), (3, .int x3)]) C dX6_mixChances_42 (by decide) rfl ?_
  refine g_lload (pc := 44) C dX6_mixChances_44 0 rfl ?_
  refine g_aload_n (pc := 46) C dX6_mixChances_46 (i := 0) rfl 1 rfl ?_
  refine g_iload_n (pc := 47) C dX6_mixChances_47 (i := 3) rfl 3 rfl ?_
  refine g_iconst (pc := 48) (v := 2) C dX6_mixChances_48 (by decide) ?_
  refine g_iconst (pc := 49) (v := 3) C dX6_mixChances_49 (by decide) ?_
  refine g_iconst (pc := 50) (v := 1) C dX6_mixChances_50 (by decide) ?_
  refine g_callVl (pc := 51) (As := [.int _, .int _, .int _, .int _]) C q861 mw_X6_clear (fun _ hz => c_X6_clear C.2.2.2.2.2.2.2.1 hz) ⟨Nat.le_of_ble_eq_true rfl, Nat.le_of_ble_eq_true rfl⟩ rfl rfl 0 rfl rfl rfl (Nat.le_of_ble_eq_true rfl) dX6_mixChances_51 fun r14 S13 => ?_
  refine g_callSl (pc := 54) (As := [.long _, .long _]) C q841 mw_X6_mix (fun _ hz => c_X6_mix C.2.2.2.2.2.2.2.1 hz) ⟨Nat.le_of_ble_eq_true rfl, Nat.le_of_ble_eq_true rfl⟩ rfl rfl rfl (Nat.le_of_ble_eq_true rfl) dX6_mixChances_54 fun r16 S15 => ?_
  exact g_lret (pc := 57) C hr dX6_mixChances_57
noncomputable def b_X6_digest_6 (k : Int64 → St → Option (Int64 × St)) (rec : Int64 → Int32 → St → Option (Int64 × St)) (x1 : Int64) (x3 : Int32) (S : St) : Option (Int64 × St) :=
if (7 : Int32) < x3 then (
k x1 S)
else
bnd (m_X6_count x3 S) fun r2 S1 =>
bnd (m_X6_mix x1 (r2).toInt64 S1) fun r4 S3 =>
rec r4 (x3 + 1) S3
noncomputable def b_X6_digest_41 (k : Int64 → St → Option (Int64 × St)) (rec : Int64 → Int32 → St → Option (Int64 × St)) (x1 : Int64) (x3 : Int32) (S : St) : Option (Int64 × St) :=
bnd (m_X1_cells S) fun r11 S10 =>
if x3 < r11 then (
bnd (m_X6_mixCell x1 x3 S10) fun r13 S12 =>
bnd (m_X6_mixChances r13 x3 S12) fun r15 S14 =>
rec r15 (x3 + 1) S14)
else
k x1 S10
noncomputable def b_X6_digest_72 (k : Int64 → St → Option (Int64 × St)) (rec : Int64 → Int32 → St → Option (Int64 × St)) (x1 : Int64) (x3 : Int32) (S : St) : Option (Int64 × St) :=
if x3 < (4 : Int32) then (
bnd (m_X6_has x3 (0 : Int32) S) fun r18 S17 =>
bnd (m_X6_mix x1 (r18).toInt64 S17) fun r20 S19 =>
bnd (m_X6_has x3 (1 : Int32) S19) fun r22 S21 =>
bnd (m_X6_mix r20 (r22).toInt64 S21) fun r24 S23 =>
rec r24 (x3 + 1) S23)
else
k x1 S
noncomputable def m_X6_digest (S : St) : Option (Int64 × St) :=
it2 (b_X6_digest_6 (fun x1_S5 S5 =>
bnd (m_X6_fault S5) fun r7 S6 =>
bnd (m_X6_mix x1_S5 (r7).toInt64 S6) fun r9 S8 =>
it2 (b_X6_digest_41 (fun x1_S16 S16 =>
it2 (b_X6_digest_72 (fun x1_S25 S25 =>
bnd (m_X6_parts (0 : Int32) S25) fun r27 S26 =>
bnd (m_X6_mix x1_S25 (r27).toInt64 S26) fun r29 S28 =>
bnd (m_X6_parts (1 : Int32) S28) fun r31 S30 =>
bnd (m_X6_mix r29 (r31).toInt64 S30) fun r33 S32 =>
bnd (m_X6_again (0 : Int32) (900 : Int32) (0 : Int32) S32) fun r35 S34 =>
bnd (m_X6_mix r33 (r35).toInt64 S34) fun r37 S36 =>
bnd (m_X6_changes (0 : Int32) S36) fun r39 S38 =>
bnd (m_X6_mix r37 (r39).toInt64 S38) fun r41 S40 =>
bnd (m_X6_changes (1 : Int32) S40) fun r43 S42 =>
bnd (m_X6_mix r41 (r43).toInt64 S42) fun r45 S44 =>
bnd (m_X6_set (-1 : Int32) S44) fun r47 S46 =>
bnd (m_X6_mix r45 (r47).toInt64 S46) fun r49 S48 =>
bnd (m_X6_whose (0 : Int32) S48) fun r51 S50 =>
bnd (m_X6_mix r49 (r51).toInt64 S50) fun r53 S52 =>
bnd (m_X6_whose (1 : Int32) S52) fun r55 S54 =>
bnd (m_X6_mix r53 (r55).toInt64 S54) fun r57 S56 =>
some (r57, S56))) 5000 x1_S16 (0 : Int32) S16)) 5000 r9 (0 : Int32) S8)) 5000 (17 : Int64) (0 : Int32) S
set_option maxRecDepth 20000 in
theorem u_X6_digest_6 (C : Cx p s m args meth c cX6_digest 4 RX6 D (tyX cI cJ cZ) ad n (wX ad cI cJ cZ)) (hr : meth.sig.returnType = (some .long)) (k : Int64 → St → Option (Int64 × St)) (hk : ∀ (x1 : Int64) (S : St), GM p l e ({ frames := 6, cells := 0, slots := 0, locals := 150 } : Room) s m args below meth c D ad n (wX ad cI cJ cZ) 4 (QL D (wX ad cI cJ cZ) ad n args s below) (k x1 S) S 29 [(0, .ref (ad 0)), (1, .long x1)] []) (rec : Int64 → Int32 → St → Option (Int64 × St)) (hrec : ∀ (x1 : Int64) (x3 : Int32) (S : St), GM p l e ({ frames := 6, cells := 0, slots := 0, locals := 150 } : Room) s m args below meth c D ad n (wX ad cI cJ cZ) 4 (QL D (wX ad cI cJ cZ) ad n args s below) (rec x1 x3 S) S 6 [(0, .ref (ad 0)), (1, .long x1), (3, .int x3)] []) (x1 : Int64) (x3 : Int32) (S : St) : GM p l e ({ frames := 6, cells := 0, slots := 0, locals := 150 } : Room) s m args below meth c D ad n (wX ad cI cJ cZ) 4 (QL D (wX ad cI cJ cZ) ad n args s below) (b_X6_digest_6 k rec x1 x3 S) S 6 [(0, .ref (ad 0)), (1, .long x1), (3, .int x3)] [] := by
  unfold b_X6_digest_6
  refine g_iload_n (pc := 6) C dX6_digest_6 (i := 3) rfl 2 rfl ?_
  refine g_bipush (pc := 7) (v := 7) C dX6_digest_7 (by decide) ?_
  refine g_icmp_gt (pc := 9) (tgt := 29) C dX6_digest_9 (by decide) ?_ ?_
  · refine g_sub [0, 1] rfl (hk _ _)
  · refine g_lload_n (pc := 12) C dX6_digest_12 (i := 1) rfl 1 rfl ?_
    refine g_aload_n (pc := 13) C dX6_digest_13 (i := 0) rfl 0 rfl ?_
    refine g_iload_n (pc := 14) C dX6_digest_14 (i := 3) rfl 2 rfl ?_
    refine g_callVi (pc := 15) (As := [.int _]) C q840 mw_X6_count (fun _ hz => c_X6_count C.2.2.2.2.2.2.2.1 hz) ⟨Nat.le_of_ble_eq_true rfl, Nat.le_of_ble_eq_true rfl⟩ rfl rfl 0 rfl rfl rfl (Nat.le_of_ble_eq_true rfl) dX6_digest_15 fun r2 S1 => ?_
    refine g_i2l (pc := 18) C dX6_digest_18 ?_
    refine g_callSl (pc := 19) (As := [.long _, .long _]) C q841 mw_X6_mix (fun _ hz => c_X6_mix C.2.2.2.2.2.2.2.1 hz) ⟨Nat.le_of_ble_eq_true rfl, Nat.le_of_ble_eq_true rfl⟩ rfl rfl rfl (Nat.le_of_ble_eq_true rfl) dX6_digest_19 fun r4 S3 => ?_
    refine g_lstore_n (pc := 22) (i := 1) (lv2 := [(1, .long r4), (0, .ref (ad 0)), (3, .int x3)]) C dX6_digest_22 rfl (by decide) rfl ?_
    refine g_iinc (pc := 23) (v := (x3 + 1)) (lv2 := [(3, .int (x3 + 1)), (1, .long r4), (0, .ref (ad 0))]) C dX6_digest_23 2 rfl rfl (by decide) rfl ?_
    refine g_goto (pc := 26) (tgt := 6) C dX6_digest_26 (by decide) ?_
    refine g_sub [2, 1, 0] rfl (hrec _ _ _)
set_option maxRecDepth 20000 in
theorem u_X6_digest_41 (C : Cx p s m args meth c cX6_digest 4 RX6 D (tyX cI cJ cZ) ad n (wX ad cI cJ cZ)) (hr : meth.sig.returnType = (some .long)) (k : Int64 → St → Option (Int64 × St)) (hk : ∀ (x1 : Int64) (S : St), GM p l e ({ frames := 6, cells := 0, slots := 0, locals := 150 } : Room) s m args below meth c D ad n (wX ad cI cJ cZ) 4 (QL D (wX ad cI cJ cZ) ad n args s below) (k x1 S) S 70 [(0, .ref (ad 0)), (1, .long x1)] []) (rec : Int64 → Int32 → St → Option (Int64 × St)) (hrec : ∀ (x1 : Int64) (x3 : Int32) (S : St), GM p l e ({ frames := 6, cells := 0, slots := 0, locals := 150 } : Room) s m args below meth c D ad n (wX ad cI cJ cZ) 4 (QL D (wX ad cI cJ cZ) ad n args s below) (rec x1 x3 S) S 41 [(0, .ref (ad 0)), (1, .long x1), (3, .int x3)] []) (x1 : Int64) (x3 : Int32) (S : St) : GM p l e ({ frames := 6, cells := 0, slots := 0, locals := 150 } : Room) s m args below meth c D ad n (wX ad cI cJ cZ) 4 (QL D (wX ad cI cJ cZ) ad n args s below) (b_X6_digest_41 k rec x1 x3 S) S 41 [(0, .ref (ad 0)), (1, .long x1), (3, .int x3)] [] := by
  unfold b_X6_digest_41
  refine g_iload_n (pc := 41) C dX6_digest_41 (i := 3) rfl 2 rfl ?_
  refine g_aload_n (pc := 42) C dX6_digest_42 (i := 0) rfl 0 rfl ?_
  refine gt_X6_ground (pc := 43) C q248 dX6_digest_43 ?_
  refine g_callVi (pc := 46) (As := []) C q399 mw_X1_cells (fun _ hz => c_X1_cells C.2.2.2.2.2.2.2.1 hz) ⟨Nat.le_of_ble_eq_true rfl, Nat.le_of_ble_eq_true rfl⟩ rfl rfl 2 rfl rfl rfl (Nat.le_of_ble_eq_true rfl) dX6_digest_46 fun r11 S10 => ?_
  refine g_icmp_ge (pc := 49) (tgt := 70) C dX6_digest_49 (by decide) ?_ ?_
  · refine g_sub [0, 1] rfl (hk _ _)
  · refine g_aload_n (pc := 52) C dX6_digest_52 (i := 0) rfl 0 rfl ?_
    refine g_aload_n (pc := 53) C dX6_digest_53 (i := 0) rfl 0 rfl ?_
    refine g_lload_n (pc := 54) C dX6_digest_54 (i := 1) rfl 1 rfl ?_
    refine g_iload_n (pc := 55) C dX6_digest_55 (i := 3) rfl 2 rfl ?_
    refine g_callVl (pc := 56) (As := [.long _, .int _]) C q846 mw_X6_mixCell (fun _ hz => c_X6_mixCell C.2.2.2.2.2.2.2.1 hz) ⟨Nat.le_of_ble_eq_true rfl, Nat.le_of_ble_eq_true rfl⟩ rfl rfl 0 rfl rfl rfl (Nat.le_of_ble_eq_true rfl) dX6_digest_56 fun r13 S12 => ?_
    refine g_iload_n (pc := 59) C dX6_digest_59 (i := 3) rfl 2 rfl ?_
    refine g_callVl (pc := 60) (As := [.long _, .int _]) C q857 mw_X6_mixChances (fun _ hz => c_X6_mixChances C.2.2.2.2.2.2.2.1 hz) ⟨Nat.le_of_ble_eq_true rfl, Nat.le_of_ble_eq_true rfl⟩ rfl rfl 0 rfl rfl rfl (Nat.le_of_ble_eq_true rfl) dX6_digest_60 fun r15 S14 => ?_
    refine g_lstore_n (pc := 63) (i := 1) (lv2 := [(1, .long r15), (0, .ref (ad 0)), (3, .int x3)]) C dX6_digest_63 rfl (by decide) rfl ?_
    refine g_iinc (pc := 64) (v := (x3 + 1)) (lv2 := [(3, .int (x3 + 1)), (1, .long r15), (0, .ref (ad 0))]) C dX6_digest_64 2 rfl rfl (by decide) rfl ?_
    refine g_goto (pc := 67) (tgt := 41) C dX6_digest_67 (by decide) ?_
    refine g_sub [2, 1, 0] rfl (hrec _ _ _)
set_option maxRecDepth 20000 in
theorem u_X6_digest_72 (C : Cx p s m args meth c cX6_digest 4 RX6 D (tyX cI cJ cZ) ad n (wX ad cI cJ cZ)) (hr : meth.sig.returnType = (some .long)) (k : Int64 → St → Option (Int64 × St)) (hk : ∀ (x1 : Int64) (S : St), GM p l e ({ frames := 6, cells := 0, slots := 0, locals := 150 } : Room) s m args below meth c D ad n (wX ad cI cJ cZ) 4 (QL D (wX ad cI cJ cZ) ad n args s below) (k x1 S) S 105 [(0, .ref (ad 0)), (1, .long x1)] []) (rec : Int64 → Int32 → St → Option (Int64 × St)) (hrec : ∀ (x1 : Int64) (x3 : Int32) (S : St), GM p l e ({ frames := 6, cells := 0, slots := 0, locals := 150 } : Room) s m args below meth c D ad n (wX ad cI cJ cZ) 4 (QL D (wX ad cI cJ cZ) ad n args s below) (rec x1 x3 S) S 72 [(0, .ref (ad 0)), (1, .long x1), (3, .int x3)] []) (x1 : Int64) (x3 : Int32) (S : St) : GM p l e ({ frames := 6, cells := 0, slots := 0, locals := 150 } : Room) s m args below meth c D ad n (wX ad cI cJ cZ) 4 (QL D (wX ad cI cJ cZ) ad n args s below) (b_X6_digest_72 k rec x1 x3 S) S 72 [(0, .ref (ad 0)), (1, .long x1), (3, .int x3)] [] := by
  unfold b_X6_digest_72
  refine g_iload_n (pc := 72) C dX6_digest_72 (i := 3) rfl 2 rfl ?_
  refine g_iconst (pc := 73) (v := 4) C dX6_digest_73 (by decide) ?_
  refine g_icmp_ge (pc := 74) (tgt := 105) C dX6_digest_74 (by decide) ?_ ?_
  · refine g_sub [0, 1] rfl (hk _ _)
  · refine g_lload_n (pc := 77) C dX6_digest_77 (i := 1) rfl 1 rfl ?_
    refine g_aload_n (pc := 78) C dX6_digest_78 (i := 0) rfl 0 rfl ?_
    refine g_iload_n (pc := 79) C dX6_digest_79 (i := 3) rfl 2 rfl ?_
    refine g_iconst (pc := 80) (v := 0) C dX6_digest_80 (by decide) ?_
    refine g_callVi (pc := 81) (As := [.int _, .int _]) C q862 mw_X6_has (fun _ hz => c_X6_has C.2.2.2.2.2.2.2.1 hz) ⟨Nat.le_of_ble_eq_true rfl, Nat.le_of_ble_eq_true rfl⟩ rfl rfl 0 rfl rfl rfl (Nat.le_of_ble_eq_true rfl) dX6_digest_81 fun r18 S17 => ?_
    refine g_i2l (pc := 84) C dX6_digest_84 ?_
    refine g_callSl (pc := 85) (As := [.long _, .long _]) C q841 mw_X6_mix (fun _ hz => c_X6_mix C.2.2.2.2.2.2.2.1 hz) ⟨Nat.le_of_ble_eq_true rfl, Nat.le_of_ble_eq_true rfl⟩ rfl rfl rfl (Nat.le_of_ble_eq_true rfl) dX6_digest_85 fun r20 S19 => ?_
    refine g_aload_n (pc := 88) C dX6_digest_88 (i := 0) rfl 0 rfl ?_
    refine g_iload_n (pc := 89) C dX6_digest_89 (i := 3) rfl 2 rfl ?_
    refine g_iconst (pc := 90) (v := 1) C dX6_digest_90 (by decide) ?_
    refine g_callVi (pc := 91) (As := [.int _, .int _]) C q862 mw_X6_has (fun _ hz => c_X6_has C.2.2.2.2.2.2.2.1 hz) ⟨Nat.le_of_ble_eq_true rfl, Nat.le_of_ble_eq_true rfl⟩ rfl rfl 0 rfl rfl rfl (Nat.le_of_ble_eq_true rfl) dX6_digest_91 fun r22 S21 => ?_
    refine g_i2l (pc := 94) C dX6_digest_94 ?_
    refine g_callSl (pc := 95) (As := [.long _, .long _]) C q841 mw_X6_mix (fun _ hz => c_X6_mix C.2.2.2.2.2.2.2.1 hz) ⟨Nat.le_of_ble_eq_true rfl, Nat.le_of_ble_eq_true rfl⟩ rfl rfl rfl (Nat.le_of_ble_eq_true rfl) dX6_digest_95 fun r24 S23 => ?_
    refine g_lstore_n (pc := 98) (i := 1) (lv2 := [(1, .long r24), (0, .ref (ad 0)), (3, .int x3)]) C dX6_digest_98 rfl (by decide) rfl ?_
    refine g_iinc (pc := 99) (v := (x3 + 1)) (lv2 := [(3, .int (x3 + 1)), (1, .long r24), (0, .ref (ad 0))]) C dX6_digest_99 2 rfl rfl (by decide) rfl ?_
    refine g_goto (pc := 102) (tgt := 72) C dX6_digest_102 (by decide) ?_
    refine g_sub [2, 1, 0] rfl (hrec _ _ _)
set_option maxRecDepth 20000 in
theorem c_X6_digest {l : Launch} {D : va_G} {ad : Nat → Nat} {cI cJ cZ : ClassId} {n : Nat} (hD : ∀ sz S, va_D (Adr ad n sz) (wX ad cI cJ cZ S)) {S : St} {z : Int64 × St} (hf : m_X6_digest S = some z) : CtL l yX6_digest cX6_digest 4 (some .long) ({ frames := 6, cells := 0, slots := 0, locals := 150 } : Room) D (wX ad cI cJ cZ) (tyX cI cJ cZ) ad n [.ref (ad 0)] S z := by
  refine CtL.of hf (by decide +kernel) (Nat.le_of_ble_eq_true rfl) hD (fun p e s m args below meth c C hr => ?_)
  refine g_sub [0] (lv2 := [(0, .ref (ad 0))]) rfl ?_
  unfold m_X6_digest
  refine g_ldc2 (pc := 0) C q839 dX6_digest_0 ?_
  refine g_lstore_n (pc := 3) (i := 1) (lv2 := [(1, .long (17 : Int64)), (0, .ref (ad 0))]) C dX6_digest_3 rfl (by decide) rfl ?_
  refine g_iconst (pc := 4) (v := 0) C dX6_digest_4 (by decide) ?_
  refine g_istore_n (pc := 5) (i := 3) (lv2 := [(3, .int (0 : Int32)), (1, .long (17 : Int64)), (0, .ref (ad 0))]) C dX6_digest_5 rfl (by decide) rfl ?_
  refine g_sub [2, 1, 0] (lv2 := [(0, .ref (ad 0)), (1, .long (17 : Int64)), (3, .int (0 : Int32))]) rfl ?_
  refine g_it2 (pc := 6) (u_X6_digest_6 C hr _ fun x1_S5 S5 => ?_) _ _ _ _
  refine g_lload_n (pc := 29) C dX6_digest_29 (i := 1) rfl 1 rfl ?_
  refine g_aload_n (pc := 30) C dX6_digest_30 (i := 0) rfl 0 rfl ?_
  refine g_callVi (pc := 31) (As := []) C q845 mw_X6_fault (fun _ hz => c_X6_fault C.2.2.2.2.2.2.2.1 hz) ⟨Nat.le_of_ble_eq_true rfl, Nat.le_of_ble_eq_true rfl⟩ rfl rfl 0 rfl rfl rfl (Nat.le_of_ble_eq_true rfl) dX6_digest_31 fun r7 S6 => ?_
  refine g_i2l (pc := 34) C dX6_digest_34 ?_
  refine g_callSl (pc := 35) (As := [.long _, .long _]) C q841 mw_X6_mix (fun _ hz => c_X6_mix C.2.2.2.2.2.2.2.1 hz) ⟨Nat.le_of_ble_eq_true rfl, Nat.le_of_ble_eq_true rfl⟩ rfl rfl rfl (Nat.le_of_ble_eq_true rfl) dX6_digest_35 fun r9 S8 => ?_
  refine g_lstore_n (pc := 38) (i := 1) (lv2 := [(1, .long r9), (0, .ref (ad 0))]) C dX6_digest_38 rfl (by decide) rfl ?_
  refine g_iconst (pc := 39) (v := 0) C dX6_digest_39 (by decide) ?_
  refine g_istore_n (pc := 40) (i := 3) (lv2 := [(3, .int (0 : Int32)), (1, .long r9), (0, .ref (ad 0))]) C dX6_digest_40 rfl (by decide) rfl ?_
  refine g_sub [2, 1, 0] (lv2 := [(0, .ref (ad 0)), (1, .long r9), (3, .int (0 : Int32))]) rfl ?_
  refine g_it2 (pc := 41) (u_X6_digest_41 C hr _ fun x1_S16 S16 => ?_) _ _ _ _
  refine g_iconst (pc := 70) (v := 0) C dX6_digest_70 (by decide) ?_
  refine g_istore_n (pc := 71) (i := 3) (lv2 := [(3, .int (0 : Int32)), (0, .ref (ad 0)), (1, .long x1_S16)]) C dX6_digest_71 rfl (by decide) rfl ?_
  refine g_sub [1, 2, 0] (lv2 := [(0, .ref (ad 0)), (1, .long x1_S16), (3, .int (0 : Int32))]) rfl ?_
  refine g_it2 (pc := 72) (u_X6_digest_72 C hr _ fun x1_S25 S25 => ?_) _ _ _ _
  refine g_lload_n (pc := 105) C dX6_digest_105 (i := 1) rfl 1 rfl ?_
  refine g_aload_n (pc := 106) C dX6_digest_106 (i := 0) rfl 0 rfl ?_
  refine g_iconst (pc := 107) (v := 0) C dX6_digest_107 (by decide) ?_
  refine g_callVi (pc := 108) (As := [.int _]) C q863 mw_X6_parts (fun _ hz => c_X6_parts C.2.2.2.2.2.2.2.1 hz) ⟨Nat.le_of_ble_eq_true rfl, Nat.le_of_ble_eq_true rfl⟩ rfl rfl 0 rfl rfl rfl (Nat.le_of_ble_eq_true rfl) dX6_digest_108 fun r27 S26 => ?_
  refine g_i2l (pc := 111) C dX6_digest_111 ?_
  refine g_callSl (pc := 112) (As := [.long _, .long _]) C q841 mw_X6_mix (fun _ hz => c_X6_mix C.2.2.2.2.2.2.2.1 hz) ⟨Nat.le_of_ble_eq_true rfl, Nat.le_of_ble_eq_true rfl⟩ rfl rfl rfl (Nat.le_of_ble_eq_true rfl) dX6_digest_112 fun r29 S28 => ?_
  refine g_aload_n (pc := 115) C dX6_digest_115 (i := 0) rfl 0 rfl ?_
  refine g_iconst (pc := 116) (v := 1) C dX6_digest_116 (by decide) ?_
  refine g_callVi (pc := 117) (As := [.int _]) C q863 mw_X6_parts (fun _ hz => c_X6_parts C.2.2.2.2.2.2.2.1 hz) ⟨Nat.le_of_ble_eq_true rfl, Nat.le_of_ble_eq_true rfl⟩ rfl rfl 0 rfl rfl rfl (Nat.le_of_ble_eq_true rfl) dX6_digest_117 fun r31 S30 => ?_
  refine g_i2l (pc := 120) C dX6_digest_120 ?_
  refine g_callSl (pc := 121) (As := [.long _, .long _]) C q841 mw_X6_mix (fun _ hz => c_X6_mix C.2.2.2.2.2.2.2.1 hz) ⟨Nat.le_of_ble_eq_true rfl, Nat.le_of_ble_eq_true rfl⟩ rfl rfl rfl (Nat.le_of_ble_eq_true rfl) dX6_digest_121 fun r33 S32 => ?_
  refine g_lstore_n (pc := 124) (i := 1) (lv2 := [(1, .long r33), (0, .ref (ad 0))]) C dX6_digest_124 rfl (by decide) rfl ?_
  refine g_lload_n (pc := 125) C dX6_digest_125 (i := 1) rfl 0 rfl ?_
  refine g_aload_n (pc := 126) C dX6_digest_126 (i := 0) rfl 1 rfl ?_
  refine g_iconst (pc := 127) (v := 0) C dX6_digest_127 (by decide) ?_
  refine g_sipush (pc := 128) (v := 900) C dX6_digest_128 (by decide) ?_
  refine g_iconst (pc := 131) (v := 0) C dX6_digest_131 (by decide) ?_
  refine g_callVi (pc := 132) (As := [.int _, .int _, .int _]) C q864 mw_X6_again (fun _ hz => c_X6_again C.2.2.2.2.2.2.2.1 hz) ⟨Nat.le_of_ble_eq_true rfl, Nat.le_of_ble_eq_true rfl⟩ rfl rfl 0 rfl rfl rfl (Nat.le_of_ble_eq_true rfl) dX6_digest_132 fun r35 S34 => ?_
  refine g_i2l (pc := 135) C dX6_digest_135 ?_
  refine g_callSl (pc := 136) (As := [.long _, .long _]) C q841 mw_X6_mix (fun _ hz => c_X6_mix C.2.2.2.2.2.2.2.1 hz) ⟨Nat.le_of_ble_eq_true rfl, Nat.le_of_ble_eq_true rfl⟩ rfl rfl rfl (Nat.le_of_ble_eq_true rfl) dX6_digest_136 fun r37 S36 => ?_
  refine g_lstore_n (pc := 139) (i := 1) (lv2 := [(1, .long r37), (0, .ref (ad 0))]) C dX6_digest_139 rfl (by decide) rfl ?_
  refine g_lload_n (pc := 140) C dX6_digest_140 (i := 1) rfl 0 rfl ?_
  refine g_aload_n (pc := 141) C dX6_digest_141 (i := 0) rfl 1 rfl ?_
  refine g_iconst (pc := 142) (v := 0) C dX6_digest_142 (by decide) ?_
  refine g_callVi (pc := 143) (As := [.int _]) C q865 mw_X6_changes (fun _ hz => c_X6_changes C.2.2.2.2.2.2.2.1 hz) ⟨Nat.le_of_ble_eq_true rfl, Nat.le_of_ble_eq_true rfl⟩ rfl rfl 0 rfl rfl rfl (Nat.le_of_ble_eq_true rfl) dX6_digest_143 fun r39 S38 => ?_
  refine g_i2l (pc := 146) C dX6_digest_146 ?_
  refine g_callSl (pc := 147) (As := [.long _, .long _]) C q841 mw_X6_mix (fun _ hz => c_X6_mix C.2.2.2.2.2.2.2.1 hz) ⟨Nat.le_of_ble_eq_true rfl, Nat.le_of_ble_eq_true rfl⟩ rfl rfl rfl (Nat.le_of_ble_eq_true rfl) dX6_digest_147 fun r41 S40 => ?_
  refine g_aload_n (pc := 150) C dX6_digest_150 (i := 0) rfl 1 rfl ?_
  refine g_iconst (pc := 151) (v := 1) C dX6_digest_151 (by decide) ?_
  refine g_callVi (pc := 152) (As := [.int _]) C q865 mw_X6_changes (fun _ hz => c_X6_changes C.2.2.2.2.2.2.2.1 hz) ⟨Nat.le_of_ble_eq_true rfl, Nat.le_of_ble_eq_true rfl⟩ rfl rfl 0 rfl rfl rfl (Nat.le_of_ble_eq_true rfl) dX6_digest_152 fun r43 S42 => ?_
  refine g_i2l (pc := 155) C dX6_digest_155 ?_
  refine g_callSl (pc := 156) (As := [.long _, .long _]) C q841 mw_X6_mix (fun _ hz => c_X6_mix C.2.2.2.2.2.2.2.1 hz) ⟨Nat.le_of_ble_eq_true rfl, Nat.le_of_ble_eq_true rfl⟩ rfl rfl rfl (Nat.le_of_ble_eq_true rfl) dX6_digest_156 fun r45 S44 => ?_
  refine g_lstore_n (pc := 159) (i := 1) (lv2 := [(1, .long r45), (0, .ref (ad 0))]) C dX6_digest_159 rfl (by decide) rfl ?_
  refine g_lload_n (pc := 160) C dX6_digest_160 (i := 1) rfl 0 rfl ?_
  refine g_aload_n (pc := 161) C dX6_digest_161 (i := 0) rfl 1 rfl ?_
  refine g_iconst (pc := 162) (v := -1) C dX6_digest_162 (by decide) ?_
  refine g_callVi (pc := 163) (As := [.int _]) C q856 mw_X6_set (fun _ hz => c_X6_set C.2.2.2.2.2.2.2.1 hz) ⟨Nat.le_of_ble_eq_true rfl, Nat.le_of_ble_eq_true rfl⟩ rfl rfl 0 rfl rfl rfl (Nat.le_of_ble_eq_true rfl) dX6_digest_163 fun r47 S46 => ?_
  refine g_i2l (pc := 166) C dX6_digest_166 ?_
  refine g_callSl (pc := 167) (As := [.long _, .long _]) C q841 mw_X6_mix (fun _ hz => c_X6_mix C.2.2.2.2.2.2.2.1 hz) ⟨Nat.le_of_ble_eq_true rfl, Nat.le_of_ble_eq_true rfl⟩ rfl rfl rfl (Nat.le_of_ble_eq_true rfl) dX6_digest_167 fun r49 S48 => ?_
  refine g_lstore_n (pc := 170) (i := 1) (lv2 := [(1, .long r49), (0, .ref (ad 0))]) C dX6_digest_170 rfl (by decide) rfl ?_
  refine g_lload_n (pc := 171) C dX6_digest_171 (i := 1) rfl 0 rfl ?_
  refine g_aload_n (pc := 172) C dX6_digest_172 (i := 0) rfl 1 rfl ?_
  refine g_iconst (pc := 173) (v := 0) C dX6_digest_173 (by decide) ?_
  refine g_callVi (pc := 174) (As := [.int _]) C q866 mw_X6_whose (fun _ hz => c_X6_whose C.2.2.2.2.2.2.2.1 hz) ⟨Nat.le_of_ble_eq_true rfl, Nat.le_of_ble_eq_true rfl⟩ rfl rfl 0 rfl rfl rfl (Nat.le_of_ble_eq_true rfl) dX6_digest_174 fun r51 S50 => ?_
  refine g_i2l (pc := 177) C dX6_digest_177 ?_
  refine g_callSl (pc := 178) (As := [.long _, .long _]) C q841 mw_X6_mix (fun _ hz => c_X6_mix C.2.2.2.2.2.2.2.1 hz) ⟨Nat.le_of_ble_eq_true rfl, Nat.le_of_ble_eq_true rfl⟩ rfl rfl rfl (Nat.le_of_ble_eq_true rfl) dX6_digest_178 fun r53 S52 => ?_
  refine g_aload_n (pc := 181) C dX6_digest_181 (i := 0) rfl 1 rfl ?_
  refine g_iconst (pc := 182) (v := 1) C dX6_digest_182 (by decide) ?_
  refine g_callVi (pc := 183) (As := [.int _]) C q866 mw_X6_whose (fun _ hz => c_X6_whose C.2.2.2.2.2.2.2.1 hz) ⟨Nat.le_of_ble_eq_true rfl, Nat.le_of_ble_eq_true rfl⟩ rfl rfl 0 rfl rfl rfl (Nat.le_of_ble_eq_true rfl) dX6_digest_183 fun r55 S54 => ?_
  refine g_i2l (pc := 186) C dX6_digest_186 ?_
  refine g_callSl (pc := 187) (As := [.long _, .long _]) C q841 mw_X6_mix (fun _ hz => c_X6_mix C.2.2.2.2.2.2.2.1 hz) ⟨Nat.le_of_ble_eq_true rfl, Nat.le_of_ble_eq_true rfl⟩ rfl rfl rfl (Nat.le_of_ble_eq_true rfl) dX6_digest_187 fun r57 S56 => ?_
  exact g_lret (pc := 190) C hr dX6_digest_190
end MM
