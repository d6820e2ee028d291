section MM
variable {p : Program} {l : Launch} {e : Env} {s : State} {m : MethodId} {args : Array Value} {below : List Frame} {meth : Method} {c : Code} {D : va_G} {ad : Nat → Nat} {n : Nat} {cI cJ cZ : ClassId}
noncomputable def b_X7_setOf_11 (x1 : Int32) (k : St → Option (Int32 × St)) (rec : Int32 → St → Option (Int32 × St)) (x3 : Int32) (S : St) : Option (Int32 × St) :=
if x3 < (125 : Int32) then (
chk (((125 : Int32) * (gI S 41 0)) + x3) 1625 <|
nm (sI S 12 (ix (((125 : Int32) * (gI S 41 0)) + x3)) (0 : Int32)) fun S5 =>
rec (x3 + 1) S5)
else
k S
noncomputable def b_X7_setOf_88 (x1 : Int32) (x3 : Int32) (x4 : Int32) (k : St → Option (Int32 × St)) (rec : Int32 → St → Option (Int32 × St)) (x5 : Int32) (S : St) : Option (Int32 × St) :=
if x5 < (3 : Int32) then (
chk x3 12 <|
chk x5 3 <|
if (gI S 10 (ix x3)) < (gI S 8 (ix x5)) then (
rec (x5 + 1) S)
else
bnd (m_X7_fives x5 S) fun r10 S9 =>
dchk r10 <|
dchk (5 : Int32) <|
if ((x4 / r10) - (x4 / r10) / (5 : Int32) * (5 : Int32)) < (4 : Int32) then (
chk x5 3 <|
bnd (m_X7_fives x5 S9) fun r12 S11 =>
chk ((((125 : Int32) * (x3 + (1 : Int32))) + x4) + r12) 1625 <|
nm (((gI S9 9 (ix x5)) + (gI S11 12 (ix ((((125 : Int32) * (x3 + (1 : Int32))) + x4) + r12))))) fun y13 =>
chk (((125 : Int32) * x3) + x4) 1625 <|
if (gI S11 12 (ix (((125 : Int32) * x3) + x4))) < y13 then (
chk (((125 : Int32) * x3) + x4) 1625 <|
nm (sI S11 12 (ix (((125 : Int32) * x3) + x4)) y13) fun S15 =>
rec (x5 + 1) S15)
else
chk (((125 : Int32) * x3) + x4) 1625 <|
chk (((125 : Int32) * x3) + x4) 1625 <|
nm (sI S11 12 (ix (((125 : Int32) * x3) + x4)) (gI S11 12 (ix (((125 : Int32) * x3) + x4)))) fun S14 =>
rec (x5 + 1) S14)
else
rec (x5 + 1) S9)
else
k S
noncomputable def b_X7_setOf_52 (x1 : Int32) (x3 : Int32) (k : St → Option (Int32 × St)) (rec : Int32 → St → Option (Int32 × St)) (x4 : Int32) (S : St) : Option (Int32 × St) :=
if x4 < (125 : Int32) then (
chk (((125 : Int32) * (x3 + (1 : Int32))) + x4) 1625 <|
chk (((125 : Int32) * x3) + x4) 1625 <|
nm (sI S 12 (ix (((125 : Int32) * x3) + x4)) (gI S 12 (ix (((125 : Int32) * (x3 + (1 : Int32))) + x4)))) fun S8 =>
it1 (b_X7_setOf_88 x1 x3 x4 (fun S16 =>
rec (x4 + 1) S16)) 5000 (0 : Int32) S8)
else
k S
noncomputable def b_X7_setOf_45 (x1 : Int32) (k : St → Option (Int32 × St)) (rec : Int32 → St → Option (Int32 × St)) (x3 : Int32) (S : St) : Option (Int32 × St) :=
if x3 < 0 then (
k S)
else
it1 (b_X7_setOf_52 x1 x3 (fun S17 =>
rec (x3 + (-1)) S17)) 5000 (0 : Int32) S
noncomputable def b_X7_setOf_276 (x1 : Int32) (x3 : Int32) (x4 : Int32) (k : St → Option (Int32 × St)) (rec : Int32 → St → Option (Int32 × St)) (x5 : Int32) (S : St) : Option (Int32 × St) :=
if x5 < (3 : Int32) then (
chk x4 12 <|
if (gI S 13 (ix x4)) = (3 : Int32) then (
chk x4 12 <|
chk x5 3 <|
if (gI S 10 (ix x4)) < (gI S 8 (ix x5)) then (
rec (x5 + 1) S)
else
bnd (m_X7_fives x5 S) fun r21 S20 =>
dchk r21 <|
dchk (5 : Int32) <|
if ((x3 / r21) - (x3 / r21) / (5 : Int32) * (5 : Int32)) < (4 : Int32) then (
chk x5 3 <|
bnd (m_X7_fives x5 S20) fun r23 S22 =>
chk ((((125 : Int32) * (x4 + (1 : Int32))) + x3) + r23) 1625 <|
chk (((125 : Int32) * x4) + x3) 1625 <|
if ((gI S20 9 (ix x5)) + (gI S22 12 (ix ((((125 : Int32) * (x4 + (1 : Int32))) + x3) + r23)))) = (gI S22 12 (ix (((125 : Int32) * x4) + x3))) then (
chk x4 12 <|
nm (sI S22 13 (ix x4) x5) fun S24 =>
rec (x5 + 1) S24)
else
rec (x5 + 1) S22)
else
rec (x5 + 1) S20)
else
k S)
else
k S
noncomputable def b_X7_setOf_223 (x1 : Int32) (k : St → Option (Int32 × St)) (rec : Int32 → Int32 → St → Option (Int32 × St)) (x3 : Int32) (x4 : Int32) (S : St) : Option (Int32 × St) :=
if x4 < (gI S 41 0) then (
chk (((125 : Int32) * (x4 + (1 : Int32))) + x3) 1625 <|
chk (((125 : Int32) * x4) + x3) 1625 <|
if (gI S 12 (ix (((125 : Int32) * (x4 + (1 : Int32))) + x3))) = (gI S 12 (ix (((125 : Int32) * x4) + x3))) then (
chk x4 12 <|
nm (sI S 13 (ix x4) (-1 : Int32)) fun S30 =>
it1 (b_X7_setOf_276 x1 x3 x4 (fun S31 =>
chk x4 12 <|
if (gI S31 13 (ix x4)) = (-1 : Int32) then (
nm ((x3 + (0 : Int32))) fun y35 =>
rec y35 (x4 + 1) S31)
else
chk x4 12 <|
bnd (m_X7_fives (gI S31 13 (ix x4)) S31) fun r33 S32 =>
nm ((x3 + r33)) fun y34 =>
rec y34 (x4 + 1) S32)) 5000 (0 : Int32) S30)
else
chk x4 12 <|
nm (sI S 13 (ix x4) (3 : Int32)) fun S19 =>
it1 (b_X7_setOf_276 x1 x3 x4 (fun S25 =>
chk x4 12 <|
if (gI S25 13 (ix x4)) = (-1 : Int32) then (
nm ((x3 + (0 : Int32))) fun y29 =>
rec y29 (x4 + 1) S25)
else
chk x4 12 <|
bnd (m_X7_fives (gI S25 13 (ix x4)) S25) fun r27 S26 =>
nm ((x3 + r27)) fun y28 =>
rec y28 (x4 + 1) S26)) 5000 (0 : Int32) S19)
else
k S
noncomputable def m_X7_setOf (x1 : Int32) (S : St) : Option (Int32 × St) :=
bnd (m_X7_faultNow S) fun r2 S1 =>
bndV (m_X7_laysYears S1) fun S3 =>
it1 (b_X7_setOf_11 x1 (fun S6 =>
nm (((gI S6 41 0) - (1 : Int32))) fun y7 =>
it1 (b_X7_setOf_45 x1 (fun S18 =>
it2 (b_X7_setOf_223 x1 (fun S36 =>
if x1 = (-1 : Int32) then (
chk (0 : Int32) 1625 <|
some ((gI S36 12 (ix (0 : Int32))), S36))
else
chk x1 12 <|
some ((gI S36 13 (ix x1)), S36))) 5000 (0 : Int32) (0 : Int32) S18)) 5000 y7 S6)) 5000 (0 : Int32) S3
set_option maxRecDepth 20000 in
theorem u_X7_setOf_11 (C : Cx p s m args meth c cX7_setOf 7 RX7 D (tyX cI cJ cZ) ad n (wM ad cI cJ cZ)) (hr : meth.sig.returnType = (some .int)) (x1 : Int32) (k : St → Option (Int32 × St)) (hk : ∀ (S : St), GM p l e ({ frames := 5, cells := 0, slots := 0, locals := 116 } : Room) s m args below meth c D ad n (wM ad cI cJ cZ) 7 (QI D (wM ad cI cJ cZ) ad n args s below) (k S) S 38 [(0, .ref (ad 0)), (1, .int x1)] []) (rec : Int32 → St → Option (Int32 × St)) (hrec : ∀ (x3 : Int32) (S : St), GM p l e ({ frames := 5, cells := 0, slots := 0, locals := 116 } : Room) s m args below meth c D ad n (wM ad cI cJ cZ) 7 (QI D (wM ad cI cJ cZ) ad n args s below) (rec x3 S) S 11 [(0, .ref (ad 0)), (1, .int x1), (3, .int x3)] []) (x3 : Int32) (S : St) : GM p l e ({ frames := 5, cells := 0, slots := 0, locals := 116 } : Room) s m args below meth c D ad n (wM ad cI cJ cZ) 7 (QI D (wM ad cI cJ cZ) ad n args s below) (b_X7_setOf_11 x1 k rec x3 S) S 11 [(0, .ref (ad 0)), (1, .int x1), (3, .int x3)] [] := by
  unfold b_X7_setOf_11
  refine g_iload_n (pc := 11) C dX7_setOf_11 (i := 3) rfl 2 rfl ?_
  refine g_bipush (pc := 12) (v := 125) C dX7_setOf_12 (by decide) ?_
  refine g_icmp_ge (pc := 14) (tgt := 38) C dX7_setOf_14 (by decide) ?_ ?_
  · refine g_sub [0, 1] rfl (hk _)
  · refine g_aload_n (pc := 17) C dX7_setOf_17 (i := 0) rfl 0 rfl ?_
    refine gt_X7_most (pc := 18) C q888 dX7_setOf_18 ?_
    refine g_bipush (pc := 21) (v := 125) C dX7_setOf_21 (by decide) ?_
    refine g_aload_n (pc := 23) C dX7_setOf_23 (i := 0) rfl 0 rfl ?_
    refine gt_X7_cells (pc := 24) C q875 dX7_setOf_24 ?_
    refine g_imul (pc := 27) C dX7_setOf_27 ?_
    refine g_iload_n (pc := 28) C dX7_setOf_28 (i := 3) rfl 2 rfl ?_
    refine g_iadd (pc := 29) C dX7_setOf_29 ?_
    refine g_iconst (pc := 30) (v := 0) C dX7_setOf_30 (by decide) ?_
    refine as_X7_most (pc := 31) C dX7_setOf_31 fun S5 => ?_
    refine g_iinc (pc := 32) (v := (x3 + 1)) (lv2 := [(3, .int (x3 + 1)), (0, .ref (ad 0)), (1, .int x1)]) C dX7_setOf_32 2 rfl rfl (by decide) rfl ?_
    refine g_goto (pc := 35) (tgt := 11) C dX7_setOf_35 (by decide) ?_
    refine g_sub [1, 2, 0] rfl (hrec _ _)
set_option maxRecDepth 20000 in
theorem u_X7_setOf_88 (C : Cx p s m args meth c cX7_setOf 7 RX7 D (tyX cI cJ cZ) ad n (wM ad cI cJ cZ)) (hr : meth.sig.returnType = (some .int)) (x1 : Int32) (x3 : Int32) (x4 : Int32) (k : St → Option (Int32 × St)) (hk : ∀ (S : St), GM p l e ({ frames := 5, cells := 0, slots := 0, locals := 116 } : Room) s m args below meth c D ad n (wM ad cI cJ cZ) 7 (QI D (wM ad cI cJ cZ) ad n args s below) (k S) S 206 [(0, .ref (ad 0)), (1, .int x1), (3, .int x3), (4, .int x4)] []) (rec : Int32 → St → Option (Int32 × St)) (hrec : ∀ (x5 : Int32) (S : St), GM p l e ({ frames := 5, cells := 0, slots := 0, locals := 116 } : Room) s m args below meth c D ad n (wM ad cI cJ cZ) 7 (QI D (wM ad cI cJ cZ) ad n args s below) (rec x5 S) S 88 [(0, .ref (ad 0)), (1, .int x1), (3, .int x3), (4, .int x4), (5, .int x5)] []) (x5 : Int32) (S : St) : GM p l e ({ frames := 5, cells := 0, slots := 0, locals := 116 } : Room) s m args below meth c D ad n (wM ad cI cJ cZ) 7 (QI D (wM ad cI cJ cZ) ad n args s below) (b_X7_setOf_88 x1 x3 x4 k rec x5 S) S 88 [(0, .ref (ad 0)), (1, .int x1), (3, .int x3), (4, .int x4), (5, .int x5)] [] := by
  unfold b_X7_setOf_88
  refine g_iload (pc := 88) C dX7_setOf_88 4 rfl ?_
  refine g_iconst (pc := 90) (v := 3) C dX7_setOf_90 (by decide) ?_
  refine g_icmp_ge (pc := 91) (tgt := 206) C dX7_setOf_91 (by decide) ?_ ?_
  · refine g_sub [0, 1, 2, 3] rfl (hk _)
  · refine g_aload_n (pc := 94) C dX7_setOf_94 (i := 0) rfl 0 rfl ?_
    refine gt_X7_years (pc := 95) C q886 dX7_setOf_95 ?_
    refine g_iload_n (pc := 98) C dX7_setOf_98 (i := 3) rfl 2 rfl ?_
    refine al_X7_years (pc := 99) C dX7_setOf_99 ?_
    refine g_aload_n (pc := 100) C dX7_setOf_100 (i := 0) rfl 0 rfl ?_
    refine gt_X7_needs (pc := 101) C q884 dX7_setOf_101 ?_
    refine g_iload (pc := 104) C dX7_setOf_104 4 rfl ?_
    refine al_X7_needs (pc := 106) C dX7_setOf_106 ?_
    refine g_icmp_lt (pc := 107) (tgt := 200) C dX7_setOf_107 (by decide) ?_ ?_
    · refine g_iinc (pc := 200) (v := (x5 + 1)) (lv2 := [(5, .int (x5 + 1)), (0, .ref (ad 0)), (1, .int x1), (3, .int x3), (4, .int x4)]) C dX7_setOf_200 4 rfl rfl (by decide) rfl ?_
      refine g_goto (pc := 203) (tgt := 88) C dX7_setOf_203 (by decide) ?_
      refine g_sub [1, 2, 3, 4, 0] rfl (hrec _ _)
    · refine g_iload (pc := 110) C dX7_setOf_110 3 rfl ?_
      refine g_iload (pc := 112) C dX7_setOf_112 4 rfl ?_
      refine g_callSi (pc := 114) (As := [.int _]) C q1175 mw_X7_fives (fun _ hz => c_X7_fives C.2.2.2.2.2.2.2.1 hz) ⟨Nat.le_of_ble_eq_true rfl, Nat.le_of_ble_eq_true rfl⟩ rfl rfl rfl (Nat.le_of_ble_eq_true rfl) dX7_setOf_114 fun r10 S9 => ?_
      refine g_idiv (pc := 117) C dX7_setOf_117 ?_
      refine g_iconst (pc := 118) (v := 5) C dX7_setOf_118 (by decide) ?_
      refine g_irem (pc := 119) C dX7_setOf_119 ?_
      refine g_iconst (pc := 120) (v := 4) C dX7_setOf_120 (by decide) ?_
      refine g_icmp_ge (pc := 121) (tgt := 200) C dX7_setOf_121 (by decide) ?_ ?_
      · refine g_iinc (pc := 200) (v := (x5 + 1)) (lv2 := [(5, .int (x5 + 1)), (0, .ref (ad 0)), (1, .int x1), (3, .int x3), (4, .int x4)]) C dX7_setOf_200 4 rfl rfl (by decide) rfl ?_
        refine g_goto (pc := 203) (tgt := 88) C dX7_setOf_203 (by decide) ?_
        refine g_sub [1, 2, 3, 4, 0] rfl (hrec _ _)
      · refine g_aload_n (pc := 124) C dX7_setOf_124 (i := 0) rfl 0 rfl ?_
        refine gt_X7_pays (pc := 125) C q885 dX7_setOf_125 ?_
        refine g_iload (pc := 128) C dX7_setOf_128 4 rfl ?_
        refine al_X7_pays (pc := 130) C dX7_setOf_130 ?_
        refine g_aload_n (pc := 131) C dX7_setOf_131 (i := 0) rfl 0 rfl ?_
        refine gt_X7_most (pc := 132) C q888 dX7_setOf_132 ?_
        refine g_bipush (pc := 135) (v := 125) C dX7_setOf_135 (by decide) ?_
        refine g_iload_n (pc := 137) C dX7_setOf_137 (i := 3) rfl 2 rfl ?_
        refine g_iconst (pc := 138) (v := 1) C dX7_setOf_138 (by decide) ?_
        refine g_iadd (pc := 139) C dX7_setOf_139 ?_
        refine g_imul (pc := 140) C dX7_setOf_140 ?_
        refine g_iload (pc := 141) C dX7_setOf_141 3 rfl ?_
        refine g_iadd (pc := 143) C dX7_setOf_143 ?_
        refine g_iload (pc := 144) C dX7_setOf_144 4 rfl ?_
        refine g_callSi (pc := 146) (As := [.int _]) C q1175 mw_X7_fives (fun _ hz => c_X7_fives C.2.2.2.2.2.2.2.1 hz) ⟨Nat.le_of_ble_eq_true rfl, Nat.le_of_ble_eq_true rfl⟩ rfl rfl rfl (Nat.le_of_ble_eq_true rfl) dX7_setOf_146 fun r12 S11 => ?_
        refine g_iadd (pc := 149) C dX7_setOf_149 ?_
        refine al_X7_most (pc := 150) C dX7_setOf_150 ?_
        refine g_iadd (pc := 151) C dX7_setOf_151 ?_
        refine g_nmi fun y13 => ?_
        refine g_istore (pc := 152) (i := 6) (j := 0) (lv2 := [(6, .int y13), (0, .ref (ad 0)), (1, .int x1), (3, .int x3), (4, .int x4), (5, .int x5)]) C dX7_setOf_152 (by decide) rfl ?_
        refine g_aload_n (pc := 154) C dX7_setOf_154 (i := 0) rfl 1 rfl ?_
        refine gt_X7_most (pc := 155) C q888 dX7_setOf_155 ?_
        refine g_bipush (pc := 158) (v := 125) C dX7_setOf_158 (by decide) ?_
        refine g_iload_n (pc := 160) C dX7_setOf_160 (i := 3) rfl 3 rfl ?_
        refine g_imul (pc := 161) C dX7_setOf_161 ?_
        refine g_iload (pc := 162) C dX7_setOf_162 4 rfl ?_
        refine g_iadd (pc := 164) C dX7_setOf_164 ?_
        refine g_iload (pc := 165) C dX7_setOf_165 0 rfl ?_
        refine g_aload_n (pc := 167) C dX7_setOf_167 (i := 0) rfl 1 rfl ?_
        refine gt_X7_most (pc := 168) C q888 dX7_setOf_168 ?_
        refine g_bipush (pc := 171) (v := 125) C dX7_setOf_171 (by decide) ?_
        refine g_iload_n (pc := 173) C dX7_setOf_173 (i := 3) rfl 3 rfl ?_
        refine g_imul (pc := 174) C dX7_setOf_174 ?_
        refine g_iload (pc := 175) C dX7_setOf_175 4 rfl ?_
        refine g_iadd (pc := 177) C dX7_setOf_177 ?_
        refine al_X7_most (pc := 178) C dX7_setOf_178 ?_
        refine g_icmp_le (pc := 179) (tgt := 187) C dX7_setOf_179 (by decide) ?_ ?_
        · refine g_aload_n (pc := 187) C dX7_setOf_187 (i := 0) rfl 1 rfl ?_
          refine gt_X7_most (pc := 188) C q888 dX7_setOf_188 ?_
          refine g_bipush (pc := 191) (v := 125) C dX7_setOf_191 (by decide) ?_
          refine g_iload_n (pc := 193) C dX7_setOf_193 (i := 3) rfl 3 rfl ?_
          refine g_imul (pc := 194) C dX7_setOf_194 ?_
          refine g_iload (pc := 195) C dX7_setOf_195 4 rfl ?_
          refine g_iadd (pc := 197) C dX7_setOf_197 ?_
          refine al_X7_most (pc := 198) C dX7_setOf_198 ?_
          refine as_X7_most (pc := 199) C dX7_setOf_199 fun S14 => ?_
          refine g_iinc (pc := 200) (v := (x5 + 1)) (lv2 := [(5, .int (x5 + 1)), (6, .int y13), (0, .ref (ad 0)), (1, .int x1), (3, .int x3), (4, .int x4)]) C dX7_setOf_200 5 rfl rfl (by decide) rfl ?_
          refine g_goto (pc := 203) (tgt := 88) C dX7_setOf_203 (by decide) ?_
          refine g_sub [2, 3, 4, 5, 0] rfl (hrec _ _)
        · refine g_iload (pc := 182) C dX7_setOf_182 0 rfl ?_
          refine g_goto (pc := 184) (tgt := 199) C dX7_setOf_184 (by decide) ?_
          refine as_X7_most (pc := 199) C dX7_setOf_199 fun S15 => ?_
          refine g_iinc (pc := 200) (v := (x5 + 1)) (lv2 := [(5, .int (x5 + 1)), (6, .int y13), (0, .ref (ad 0)), (1, .int x1), (3, .int x3), (4, .int x4)]) C dX7_setOf_200 5 rfl rfl (by decide) rfl ?_
          refine g_goto (pc := 203) (tgt := 88) C dX7_setOf_203 (by decide) ?_
          refine g_sub [2, 3, 4, 5, 0] rfl (hrec _ _)
set_option maxRecDepth 20000 in
theorem u_X7_setOf_52 (C : Cx p s m args meth c cX7_setOf 7 RX7 D (tyX cI cJ cZ) ad n (wM ad cI cJ cZ)) (hr : meth.sig.returnType = (some .int)) (x1 : Int32) (x3 : Int32) (k : St → Option (Int32 × St)) (hk : ∀ (S : St), GM p l e ({ frames := 5, cells := 0, slots := 0, locals := 116 } : Room) s m args below meth c D ad n (wM ad cI cJ cZ) 7 (QI D (wM ad cI cJ cZ) ad n args s below) (k S) S 212 [(0, .ref (ad 0)), (1, .int x1), (3, .int x3)] []) (rec : Int32 → St → Option (Int32 × St)) (hrec : ∀ (x4 : Int32) (S : St), GM p l e ({ frames := 5, cells := 0, slots := 0, locals := 116 } : Room) s m args below meth c D ad n (wM ad cI cJ cZ) 7 (QI D (wM ad cI cJ cZ) ad n args s below) (rec x4 S) S 52 [(0, .ref (ad 0)), (1, .int x1), (3, .int x3), (4, .int x4)] []) (x4 : Int32) (S : St) : GM p l e ({ frames := 5, cells := 0, slots := 0, locals := 116 } : Room) s m args below meth c D ad n (wM ad cI cJ cZ) 7 (QI D (wM ad cI cJ cZ) ad n args s below) (b_X7_setOf_52 x1 x3 k rec x4 S) S 52 [(0, .ref (ad 0)), (1, .int x1), (3, .int x3), (4, .int x4)] [] := by
  unfold b_X7_setOf_52
  refine g_iload (pc := 52) C dX7_setOf_52 3 rfl ?_
  refine g_bipush (pc := 54) (v := 125) C dX7_setOf_54 (by decide) ?_
  refine g_icmp_ge (pc := 56) (tgt := 212) C dX7_setOf_56 (by decide) ?_ ?_
  · refine g_sub [0, 1, 2] rfl (hk _)
  · refine g_aload_n (pc := 59) C dX7_setOf_59 (i := 0) rfl 0 rfl ?_
    refine gt_X7_most (pc := 60) C q888 dX7_setOf_60 ?_
    refine g_bipush (pc := 63) (v := 125) C dX7_setOf_63 (by decide) ?_
    refine g_iload_n (pc := 65) C dX7_setOf_65 (i := 3) rfl 2 rfl ?_
    refine g_imul (pc := 66) C dX7_setOf_66 ?_
    refine g_iload (pc := 67) C dX7_setOf_67 3 rfl ?_
    refine g_iadd (pc := 69) C dX7_setOf_69 ?_
    refine g_aload_n (pc := 70) C dX7_setOf_70 (i := 0) rfl 0 rfl ?_
    refine gt_X7_most (pc := 71) C q888 dX7_setOf_71 ?_
    refine g_bipush (pc := 74) (v := 125) C dX7_setOf_74 (by decide) ?_
    refine g_iload_n (pc := 76) C dX7_setOf_76 (i := 3) rfl 2 rfl ?_
    refine g_iconst (pc := 77) (v := 1) C dX7_setOf_77 (by decide) ?_
    refine g_iadd (pc := 78) C dX7_setOf_78 ?_
    refine g_imul (pc := 79) C dX7_setOf_79 ?_
    refine g_iload (pc := 80) C dX7_setOf_80 3 rfl ?_
    refine g_iadd (pc := 82) C dX7_setOf_82 ?_
    refine al_X7_most (pc := 83) C dX7_setOf_83 ?_
    refine as_X7_most (pc := 84) C dX7_setOf_84 fun S8 => ?_
    refine g_iconst (pc := 85) (v := 0) C dX7_setOf_85 (by decide) ?_
    refine g_istore (pc := 86) (i := 5) (j := 0) (lv2 := [(5, .int (0 : Int32)), (0, .ref (ad 0)), (1, .int x1), (3, .int x3), (4, .int x4)]) C dX7_setOf_86 (by decide) rfl ?_
    refine g_sub [1, 2, 3, 4, 0] (lv2 := [(0, .ref (ad 0)), (1, .int x1), (3, .int x3), (4, .int x4), (5, .int (0 : Int32))]) rfl ?_
    refine g_it1 (pc := 88) (u_X7_setOf_88 C hr _ _ _ _ fun S16 => ?_) _ _ _
    refine g_iinc (pc := 206) (v := (x4 + 1)) (lv2 := [(4, .int (x4 + 1)), (0, .ref (ad 0)), (1, .int x1), (3, .int x3)]) C dX7_setOf_206 3 rfl rfl (by decide) rfl ?_
    refine g_goto (pc := 209) (tgt := 52) C dX7_setOf_209 (by decide) ?_
    refine g_sub [1, 2, 3, 0] rfl (hrec _ _)
set_option maxRecDepth 20000 in
theorem u_X7_setOf_45 (C : Cx p s m args meth c cX7_setOf 7 RX7 D (tyX cI cJ cZ) ad n (wM ad cI cJ cZ)) (hr : meth.sig.returnType = (some .int)) (x1 : Int32) (k : St → Option (Int32 × St)) (hk : ∀ (S : St), GM p l e ({ frames := 5, cells := 0, slots := 0, locals := 116 } : Room) s m args below meth c D ad n (wM ad cI cJ cZ) 7 (QI D (wM ad cI cJ cZ) ad n args s below) (k S) S 218 [(0, .ref (ad 0)), (1, .int x1)] []) (rec : Int32 → St → Option (Int32 × St)) (hrec : ∀ (x3 : Int32) (S : St), GM p l e ({ frames := 5, cells := 0, slots := 0, locals := 116 } : Room) s m args below meth c D ad n (wM ad cI cJ cZ) 7 (QI D (wM ad cI cJ cZ) ad n args s below) (rec x3 S) S 45 [(0, .ref (ad 0)), (1, .int x1), (3, .int x3)] []) (x3 : Int32) (S : St) : GM p l e ({ frames := 5, cells := 0, slots := 0, locals := 116 } : Room) s m args below meth c D ad n (wM ad cI cJ cZ) 7 (QI D (wM ad cI cJ cZ) ad n args s below) (b_X7_setOf_45 x1 k rec x3 S) S 45 [(0, .ref (ad 0)), (1, .int x1), (3, .int x3)] [] := by
  unfold b_X7_setOf_45
  refine g_iload_n (pc := 45) C dX7_setOf_45 (i := 3) rfl 2 rfl ?_
  refine g_if_lt (pc := 46) (tgt := 218) C dX7_setOf_46 (by decide) ?_ ?_
  · refine g_sub [0, 1] rfl (hk _)
  · refine g_iconst (pc := 49) (v := 0) C dX7_setOf_49 (by decide) ?_
    refine g_istore (pc := 50) (i := 4) (j := 0) (lv2 := [(4, .int (0 : Int32)), (0, .ref (ad 0)), (1, .int x1), (3, .int x3)]) C dX7_setOf_50 (by decide) rfl ?_
    refine g_sub [1, 2, 3, 0] (lv2 := [(0, .ref (ad 0)), (1, .int x1), (3, .int x3), (4, .int (0 : Int32))]) rfl ?_
    refine g_it1 (pc := 52) (u_X7_setOf_52 C hr _ _ _ fun S17 => ?_) _ _ _
    refine g_iinc (pc := 212) (v := (x3 + (-1))) (lv2 := [(3, .int (x3 + (-1))), (0, .ref (ad 0)), (1, .int x1)]) C dX7_setOf_212 2 rfl rfl (by decide) rfl ?_
    refine g_goto (pc := 215) (tgt := 45) C dX7_setOf_215 (by decide) ?_
    refine g_sub [1, 2, 0] rfl (hrec _ _)
set_option maxRecDepth 20000 in
theorem u_X7_setOf_276 (C : Cx p s m args meth c cX7_setOf 7 RX7 D (tyX cI cJ cZ) ad n (wM ad cI cJ cZ)) (hr : meth.sig.returnType = (some .int)) (x1 : Int32) (x3 : Int32) (x4 : Int32) (k : St → Option (Int32 × St)) (hk : ∀ (S : St), GM p l e ({ frames := 5, cells := 0, slots := 0, locals := 116 } : Room) s m args below meth c D ad n (wM ad cI cJ cZ) 7 (QI D (wM ad cI cJ cZ) ad n args s below) (k S) S 381 [(0, .ref (ad 0)), (1, .int x1), (3, .int x3), (4, .int x4)] []) (rec : Int32 → St → Option (Int32 × St)) (hrec : ∀ (x5 : Int32) (S : St), GM p l e ({ frames := 5, cells := 0, slots := 0, locals := 116 } : Room) s m args below meth c D ad n (wM ad cI cJ cZ) 7 (QI D (wM ad cI cJ cZ) ad n args s below) (rec x5 S) S 276 [(0, .ref (ad 0)), (1, .int x1), (3, .int x3), (4, .int x4), (5, .int x5)] []) (x5 : Int32) (S : St) : GM p l e ({ frames := 5, cells := 0, slots := 0, locals := 116 } : Room) s m args below meth c D ad n (wM ad cI cJ cZ) 7 (QI D (wM ad cI cJ cZ) ad n args s below) (b_X7_setOf_276 x1 x3 x4 k rec x5 S) S 276 [(0, .ref (ad 0)), (1, .int x1), (3, .int x3), (4, .int x4), (5, .int x5)] [] := by
  unfold b_X7_setOf_276
  refine g_iload (pc := 276) C dX7_setOf_276 4 rfl ?_
  refine g_iconst (pc := 278) (v := 3) C dX7_setOf_278 (by decide) ?_
  refine g_icmp_ge (pc := 279) (tgt := 381) C dX7_setOf_279 (by decide) ?_ ?_
  · refine g_sub [0, 1, 2, 3] rfl (hk _)
  · refine g_aload_n (pc := 282) C dX7_setOf_282 (i := 0) rfl 0 rfl ?_
    refine gt_X7_chosen (pc := 283) C q889 dX7_setOf_283 ?_
    refine g_iload (pc := 286) C dX7_setOf_286 3 rfl ?_
    refine al_X7_chosen (pc := 288) C dX7_setOf_288 ?_
    refine g_iconst (pc := 289) (v := 3) C dX7_setOf_289 (by decide) ?_
    refine g_icmp_ne (pc := 290) (tgt := 381) C dX7_setOf_290 (by decide) ?_ ?_
    · refine g_sub [0, 1, 2, 3] rfl (hk _)
    · refine g_aload_n (pc := 293) C dX7_setOf_293 (i := 0) rfl 0 rfl ?_
      refine gt_X7_years (pc := 294) C q886 dX7_setOf_294 ?_
      refine g_iload (pc := 297) C dX7_setOf_297 3 rfl ?_
      refine al_X7_years (pc := 299) C dX7_setOf_299 ?_
      refine g_aload_n (pc := 300) C dX7_setOf_300 (i := 0) rfl 0 rfl ?_
      refine gt_X7_needs (pc := 301) C q884 dX7_setOf_301 ?_
      refine g_iload (pc := 304) C dX7_setOf_304 4 rfl ?_
      refine al_X7_needs (pc := 306) C dX7_setOf_306 ?_
      refine g_icmp_lt (pc := 307) (tgt := 375) C dX7_setOf_307 (by decide) ?_ ?_
      · refine g_iinc (pc := 375) (v := (x5 + 1)) (lv2 := [(5, .int (x5 + 1)), (0, .ref (ad 0)), (1, .int x1), (3, .int x3), (4, .int x4)]) C dX7_setOf_375 4 rfl rfl (by decide) rfl ?_
        refine g_goto (pc := 378) (tgt := 276) C dX7_setOf_378 (by decide) ?_
        refine g_sub [1, 2, 3, 4, 0] rfl (hrec _ _)
      · refine g_iload_n (pc := 310) C dX7_setOf_310 (i := 3) rfl 2 rfl ?_
        refine g_iload (pc := 311) C dX7_setOf_311 4 rfl ?_
        refine g_callSi (pc := 313) (As := [.int _]) C q1175 mw_X7_fives (fun _ hz => c_X7_fives C.2.2.2.2.2.2.2.1 hz) ⟨Nat.le_of_ble_eq_true rfl, Nat.le_of_ble_eq_true rfl⟩ rfl rfl rfl (Nat.le_of_ble_eq_true rfl) dX7_setOf_313 fun r21 S20 => ?_
        refine g_idiv (pc := 316) C dX7_setOf_316 ?_
        refine g_iconst (pc := 317) (v := 5) C dX7_setOf_317 (by decide) ?_
        refine g_irem (pc := 318) C dX7_setOf_318 ?_
        refine g_iconst (pc := 319) (v := 4) C dX7_setOf_319 (by decide) ?_
        refine g_icmp_ge (pc := 320) (tgt := 375) C dX7_setOf_320 (by decide) ?_ ?_
        · refine g_iinc (pc := 375) (v := (x5 + 1)) (lv2 := [(5, .int (x5 + 1)), (0, .ref (ad 0)), (1, .int x1), (3, .int x3), (4, .int x4)]) C dX7_setOf_375 4 rfl rfl (by decide) rfl ?_
          refine g_goto (pc := 378) (tgt := 276) C dX7_setOf_378 (by decide) ?_
          refine g_sub [1, 2, 3, 4, 0] rfl (hrec _ _)
        · refine g_aload_n (pc := 323) C dX7_setOf_323 (i := 0) rfl 0 rfl ?_
          refine gt_X7_pays (pc := 324) C q885 dX7_setOf_324 ?_
          refine g_iload (pc := 327) C dX7_setOf_327 4 rfl ?_
          refine al_X7_pays (pc := 329) C dX7_setOf_329 ?_
          refine g_aload_n (pc := 330) C dX7_setOf_330 (i := 0) rfl 0 rfl ?_
          refine gt_X7_most (pc := 331) C q888 dX7_setOf_331 ?_
          refine g_bipush (pc := 334) (v := 125) C dX7_setOf_334 (by decide) ?_
          refine g_iload (pc := 336) C dX7_setOf_336 3 rfl ?_
          refine g_iconst (pc := 338) (v := 1) C dX7_setOf_338 (by decide) ?_
          refine g_iadd (pc := 339) C dX7_setOf_339 ?_
          refine g_imul (pc := 340) C dX7_setOf_340 ?_
          refine g_iload_n (pc := 341) C dX7_setOf_341 (i := 3) rfl 2 rfl ?_
          refine g_iadd (pc := 342) C dX7_setOf_342 ?_
          refine g_iload (pc := 343) C dX7_setOf_343 4 rfl ?_
          refine g_callSi (pc := 345) (As := [.int _]) C q1175 mw_X7_fives (fun _ hz => c_X7_fives C.2.2.2.2.2.2.2.1 hz) ⟨Nat.le_of_ble_eq_true rfl, Nat.le_of_ble_eq_true rfl⟩ rfl rfl rfl (Nat.le_of_ble_eq_true rfl) dX7_setOf_345 fun r23 S22 => ?_
          refine g_iadd (pc := 348) C dX7_setOf_348 ?_
          refine al_X7_most (pc := 349) C dX7_setOf_349 ?_
          refine g_iadd (pc := 350) C dX7_setOf_350 ?_
          refine g_aload_n (pc := 351) C dX7_setOf_351 (i := 0) rfl 0 rfl ?_
          refine gt_X7_most (pc := 352) C q888 dX7_setOf_352 ?_
          refine g_bipush (pc := 355) (v := 125) C dX7_setOf_355 (by decide) ?_
          refine g_iload (pc := 357) C dX7_setOf_357 3 rfl ?_
          refine g_imul (pc := 359) C dX7_setOf_359 ?_
          refine g_iload_n (pc := 360) C dX7_setOf_360 (i := 3) rfl 2 rfl ?_
          refine g_iadd (pc := 361) C dX7_setOf_361 ?_
          refine al_X7_most (pc := 362) C dX7_setOf_362 ?_
          refine g_icmp_ne (pc := 363) (tgt := 375) C dX7_setOf_363 (by decide) ?_ ?_
          · refine g_iinc (pc := 375) (v := (x5 + 1)) (lv2 := [(5, .int (x5 + 1)), (0, .ref (ad 0)), (1, .int x1), (3, .int x3), (4, .int x4)]) C dX7_setOf_375 4 rfl rfl (by decide) rfl ?_
            refine g_goto (pc := 378) (tgt := 276) C dX7_setOf_378 (by decide) ?_
            refine g_sub [1, 2, 3, 4, 0] rfl (hrec _ _)
          · refine g_aload_n (pc := 366) C dX7_setOf_366 (i := 0) rfl 0 rfl ?_
            refine gt_X7_chosen (pc := 367) C q889 dX7_setOf_367 ?_
            refine g_iload (pc := 370) C dX7_setOf_370 3 rfl ?_
            refine g_iload (pc := 372) C dX7_setOf_372 4 rfl ?_
            refine as_X7_chosen (pc := 374) C dX7_setOf_374 fun S24 => ?_
            refine g_iinc (pc := 375) (v := (x5 + 1)) (lv2 := [(5, .int (x5 + 1)), (0, .ref (ad 0)), (1, .int x1), (3, .int x3), (4, .int x4)]) C dX7_setOf_375 4 rfl rfl (by decide) rfl ?_
            refine g_goto (pc := 378) (tgt := 276) C dX7_setOf_378 (by decide) ?_
            refine g_sub [1, 2, 3, 4, 0] rfl (hrec _ _)
set_option maxRecDepth 20000 in
theorem u_X7_setOf_223 (C : Cx p s m args meth c cX7_setOf 7 RX7 D (tyX cI cJ cZ) ad n (wM ad cI cJ cZ)) (hr : meth.sig.returnType = (some .int)) (x1 : Int32) (k : St → Option (Int32 × St)) (hk : ∀ (S : St), GM p l e ({ frames := 5, cells := 0, slots := 0, locals := 116 } : Room) s m args below meth c D ad n (wM ad cI cJ cZ) 7 (QI D (wM ad cI cJ cZ) ad n args s below) (k S) S 415 [(0, .ref (ad 0)), (1, .int x1)] []) (rec : Int32 → Int32 → St → Option (Int32 × St)) (hrec : ∀ (x3 : Int32) (x4 : Int32) (S : St), GM p l e ({ frames := 5, cells := 0, slots := 0, locals := 116 } : Room) s m args below meth c D ad n (wM ad cI cJ cZ) 7 (QI D (wM ad cI cJ cZ) ad n args s below) (rec x3 x4 S) S 223 [(0, .ref (ad 0)), (1, .int x1), (3, .int x3), (4, .int x4)] []) (x3 : Int32) (x4 : Int32) (S : St) : GM p l e ({ frames := 5, cells := 0, slots := 0, locals := 116 } : Room) s m args below meth c D ad n (wM ad cI cJ cZ) 7 (QI D (wM ad cI cJ cZ) ad n args s below) (b_X7_setOf_223 x1 k rec x3 x4 S) S 223 [(0, .ref (ad 0)), (1, .int x1), (3, .int x3), (4, .int x4)] [] := by
  unfold b_X7_setOf_223
  refine g_iload (pc := 223) C dX7_setOf_223 3 rfl ?_
  refine g_aload_n (pc := 225) C dX7_setOf_225 (i := 0) rfl 0 rfl ?_
  refine gt_X7_cells (pc := 226) C q875 dX7_setOf_226 ?_
  refine g_icmp_ge (pc := 229) (tgt := 415) C dX7_setOf_229 (by decide) ?_ ?_
  · refine g_sub [0, 1] rfl (hk _)
  · refine g_aload_n (pc := 232) C dX7_setOf_232 (i := 0) rfl 0 rfl ?_
    refine gt_X7_chosen (pc := 233) C q889 dX7_setOf_233 ?_
    refine g_iload (pc := 236) C dX7_setOf_236 3 rfl ?_
    refine g_aload_n (pc := 238) C dX7_setOf_238 (i := 0) rfl 0 rfl ?_
    refine gt_X7_most (pc := 239) C q888 dX7_setOf_239 ?_
    refine g_bipush (pc := 242) (v := 125) C dX7_setOf_242 (by decide) ?_
    refine g_iload (pc := 244) C dX7_setOf_244 3 rfl ?_
    refine g_iconst (pc := 246) (v := 1) C dX7_setOf_246 (by decide) ?_
    refine g_iadd (pc := 247) C dX7_setOf_247 ?_
    refine g_imul (pc := 248) C dX7_setOf_248 ?_
    refine g_iload_n (pc := 249) C dX7_setOf_249 (i := 3) rfl 2 rfl ?_
    refine g_iadd (pc := 250) C dX7_setOf_250 ?_
    refine al_X7_most (pc := 251) C dX7_setOf_251 ?_
    refine g_aload_n (pc := 252) C dX7_setOf_252 (i := 0) rfl 0 rfl ?_
    refine gt_X7_most (pc := 253) C q888 dX7_setOf_253 ?_
    refine g_bipush (pc := 256) (v := 125) C dX7_setOf_256 (by decide) ?_
    refine g_iload (pc := 258) C dX7_setOf_258 3 rfl ?_
    refine g_imul (pc := 260) C dX7_setOf_260 ?_
    refine g_iload_n (pc := 261) C dX7_setOf_261 (i := 3) rfl 2 rfl ?_
    refine g_iadd (pc := 262) C dX7_setOf_262 ?_
    refine al_X7_most (pc := 263) C dX7_setOf_263 ?_
    refine g_icmp_ne (pc := 264) (tgt := 271) C dX7_setOf_264 (by decide) ?_ ?_
    · refine g_iconst (pc := 271) (v := 3) C dX7_setOf_271 (by decide) ?_
      refine as_X7_chosen (pc := 272) C dX7_setOf_272 fun S19 => ?_
      refine g_iconst (pc := 273) (v := 0) C dX7_setOf_273 (by decide) ?_
      refine g_istore (pc := 274) (i := 5) (j := 0) (lv2 := [(5, .int (0 : Int32)), (0, .ref (ad 0)), (1, .int x1), (3, .int x3), (4, .int x4)]) C dX7_setOf_274 (by decide) rfl ?_
      refine g_sub [1, 2, 3, 4, 0] (lv2 := [(0, .ref (ad 0)), (1, .int x1), (3, .int x3), (4, .int x4), (5, .int (0 : Int32))]) rfl ?_
      refine g_it1 (pc := 276) (u_X7_setOf_276 C hr _ _ _ _ fun S25 => ?_) _ _ _
      refine g_iload_n (pc := 381) C dX7_setOf_381 (i := 3) rfl 2 rfl ?_
      refine g_aload_n (pc := 382) C dX7_setOf_382 (i := 0) rfl 0 rfl ?_
      refine gt_X7_chosen (pc := 383) C q889 dX7_setOf_383 ?_
      refine g_iload (pc := 386) C dX7_setOf_386 3 rfl ?_
      refine al_X7_chosen (pc := 388) C dX7_setOf_388 ?_
      refine g_iconst (pc := 389) (v := -1) C dX7_setOf_389 (by decide) ?_
      refine g_icmp_ne (pc := 390) (tgt := 397) C dX7_setOf_390 (by decide) ?_ ?_
      · refine g_aload_n (pc := 397) C dX7_setOf_397 (i := 0) rfl 0 rfl ?_
        refine gt_X7_chosen (pc := 398) C q889 dX7_setOf_398 ?_
        refine g_iload (pc := 401) C dX7_setOf_401 3 rfl ?_
        refine al_X7_chosen (pc := 403) C dX7_setOf_403 ?_
        refine g_callSi (pc := 404) (As := [.int _]) C q1175 mw_X7_fives (fun _ hz => c_X7_fives C.2.2.2.2.2.2.2.1 hz) ⟨Nat.le_of_ble_eq_true rfl, Nat.le_of_ble_eq_true rfl⟩ rfl rfl rfl (Nat.le_of_ble_eq_true rfl) dX7_setOf_404 fun r27 S26 => ?_
        refine g_iadd (pc := 407) C dX7_setOf_407 ?_
        refine g_nmi fun y28 => ?_
        refine g_istore_n (pc := 408) (i := 3) (lv2 := [(3, .int y28), (0, .ref (ad 0)), (1, .int x1), (4, .int x4)]) C dX7_setOf_408 rfl (by decide) rfl ?_
        refine g_iinc (pc := 409) (v := (x4 + 1)) (lv2 := [(4, .int (x4 + 1)), (3, .int y28), (0, .ref (ad 0)), (1, .int x1)]) C dX7_setOf_409 3 rfl rfl (by decide) rfl ?_
        refine g_goto (pc := 412) (tgt := 223) C dX7_setOf_412 (by decide) ?_
        refine g_sub [2, 3, 1, 0] rfl (hrec _ _ _)
      · refine g_iconst (pc := 393) (v := 0) C dX7_setOf_393 (by decide) ?_
        refine g_goto (pc := 394) (tgt := 407) C dX7_setOf_394 (by decide) ?_
        refine g_iadd (pc := 407) C dX7_setOf_407 ?_
        refine g_nmi fun y29 => ?_
        refine g_istore_n (pc := 408) (i := 3) (lv2 := [(3, .int y29), (0, .ref (ad 0)), (1, .int x1), (4, .int x4)]) C dX7_setOf_408 rfl (by decide) rfl ?_
        refine g_iinc (pc := 409) (v := (x4 + 1)) (lv2 := [(4, .int (x4 + 1)), (3, .int y29), (0, .ref (ad 0)), (1, .int x1)]) C dX7_setOf_409 3 rfl rfl (by decide) rfl ?_
        refine g_goto (pc := 412) (tgt := 223) C dX7_setOf_412 (by decide) ?_
        refine g_sub [2, 3, 1, 0] rfl (hrec _ _ _)
    · refine g_iconst (pc := 267) (v := -1) C dX7_setOf_267 (by decide) ?_
      refine g_goto (pc := 268) (tgt := 272) C dX7_setOf_268 (by decide) ?_
      refine as_X7_chosen (pc := 272) C dX7_setOf_272 fun S30 => ?_
      refine g_iconst (pc := 273) (v := 0) C dX7_setOf_273 (by decide) ?_
      refine g_istore (pc := 274) (i := 5) (j := 0) (lv2 := [(5, .int (0 : Int32)), (0, .ref (ad 0)), (1, .int x1), (3, .int x3), (4, .int x4)]) C dX7_setOf_274 (by decide) rfl ?_
      refine g_sub [1, 2, 3, 4, 0] (lv2 := [(0, .ref (ad 0)), (1, .int x1), (3, .int x3), (4, .int x4), (5, .int (0 : Int32))]) rfl ?_
      refine g_it1 (pc := 276) (u_X7_setOf_276 C hr _ _ _ _ fun S31 => ?_) _ _ _
      refine g_iload_n (pc := 381) C dX7_setOf_381 (i := 3) rfl 2 rfl ?_
      refine g_aload_n (pc := 382) C dX7_setOf_382 (i := 0) rfl 0 rfl ?_
      refine gt_X7_chosen (pc := 383) C q889 dX7_setOf_383 ?_
      refine g_iload (pc := 386) C dX7_setOf_386 3 rfl ?_
      refine al_X7_chosen (pc := 388) C dX7_setOf_388 ?_
      refine g_iconst (pc := 389) (v := -1) C dX7_setOf_389 (by decide) ?_
      refine g_icmp_ne (pc := 390) (tgt := 397) C dX7_setOf_390 (by decide) ?_ ?_
      · refine g_aload_n (pc := 397) C dX7_setOf_397 (i := 0) rfl 0 rfl ?_
        refine gt_X7_chosen (pc := 398) C q889 dX7_setOf_398 ?_
        refine g_iload (pc := 401) C dX7_setOf_401 3 rfl ?_
        refine al_X7_chosen (pc := 403) C dX7_setOf_403 ?_
        refine g_callSi (pc := 404) (As := [.int _]) C q1175 mw_X7_fives (fun _ hz => c_X7_fives C.2.2.2.2.2.2.2.1 hz) ⟨Nat.le_of_ble_eq_true rfl, Nat.le_of_ble_eq_true rfl⟩ rfl rfl rfl (Nat.le_of_ble_eq_true rfl) dX7_setOf_404 fun r33 S32 => ?_
        refine g_iadd (pc := 407) C dX7_setOf_407 ?_
        refine g_nmi fun y34 => ?_
        refine g_istore_n (pc := 408) (i := 3) (lv2 := [(3, .int y34), (0, .ref (ad 0)), (1, .int x1), (4, .int x4)]) C dX7_setOf_408 rfl (by decide) rfl ?_
        refine g_iinc (pc := 409) (v := (x4 + 1)) (lv2 := [(4, .int (x4 + 1)), (3, .int y34), (0, .ref (ad 0)), (1, .int x1)]) C dX7_setOf_409 3 rfl rfl (by decide) rfl ?_
        refine g_goto (pc := 412) (tgt := 223) C dX7_setOf_412 (by decide) ?_
        refine g_sub [2, 3, 1, 0] rfl (hrec _ _ _)
      · refine g_iconst (pc := 393) (v := 0) C dX7_setOf_393 (by decide) ?_
        refine g_goto (pc := 394) (tgt := 407) C dX7_setOf_394 (by decide) ?_
        refine g_iadd (pc := 407) C dX7_setOf_407 ?_
        refine g_nmi fun y35 => ?_
        refine g_istore_n (pc := 408) (i := 3) (lv2 := [(3, .int y35), (0, .ref (ad 0)), (1, .int x1), (4, .int x4)]) C dX7_setOf_408 rfl (by decide) rfl ?_
        refine g_iinc (pc := 409) (v := (x4 + 1)) (lv2 := [(4, .int (x4 + 1)), (3, .int y35), (0, .ref (ad 0)), (1, .int x1)]) C dX7_setOf_409 3 rfl rfl (by decide) rfl ?_
        refine g_goto (pc := 412) (tgt := 223) C dX7_setOf_412 (by decide) ?_
        refine g_sub [2, 3, 1, 0] rfl (hrec _ _ _)
set_option maxRecDepth 20000 in
theorem c_X7_setOf {l : Launch} {D : va_G} {ad : Nat → Nat} {cI cJ cZ : ClassId} {n : Nat} (hD : ∀ sz S, va_D (Adr ad n sz) (wM ad cI cJ cZ S)) {x1 : Int32} {S : St} {z : Int32 × St} (hf : m_X7_setOf x1 S = some z) : CtI l yX7_setOf cX7_setOf 7 (some .int) ({ frames := 5, cells := 0, slots := 0, locals := 116 } : Room) D (wM ad cI cJ cZ) (tyX cI cJ cZ) ad n [.ref (ad 0), .int x1] S z := by
  refine CtI.of hf (by decide +kernel) (Nat.le_of_ble_eq_true rfl) hD (fun p e s m args below meth c C hr => ?_)
  refine g_sub [0, 1] (lv2 := [(0, .ref (ad 0)), (1, .int x1)]) rfl ?_
  unfold m_X7_setOf
  refine g_aload_n (pc := 0) C dX7_setOf_0 (i := 0) rfl 0 rfl ?_
  refine g_callVi (pc := 1) (As := []) C q971 mw_X7_faultNow (fun _ hz => c_X7_faultNow C.2.2.2.2.2.2.2.1 hz) ⟨Nat.le_of_ble_eq_true rfl, Nat.le_of_ble_eq_true rfl⟩ rfl rfl 0 rfl rfl rfl (Nat.le_of_ble_eq_true rfl) dX7_setOf_1 fun r2 S1 => ?_
  refine g_istore_n (pc := 4) (i := 2) (lv2 := [(2, .int r2), (0, .ref (ad 0)), (1, .int x1)]) C dX7_setOf_4 rfl (by decide) rfl ?_
  refine g_aload_n (pc := 5) C dX7_setOf_5 (i := 0) rfl 1 rfl ?_
  refine g_callVv (pc := 6) (As := []) C q1078 mw_X7_laysYears (fun _ hz => c_X7_laysYears C.2.2.2.2.2.2.2.1 hz) ⟨Nat.le_of_ble_eq_true rfl, Nat.le_of_ble_eq_true rfl⟩ rfl rfl 0 rfl rfl rfl (Nat.le_of_ble_eq_true rfl) dX7_setOf_6 fun S3 => ?_
  refine g_iconst (pc := 9) (v := 0) C dX7_setOf_9 (by decide) ?_
  refine g_istore_n (pc := 10) (i := 3) (lv2 := [(3, .int (0 : Int32)), (2, .int r2), (0, .ref (ad 0)), (1, .int x1)]) C dX7_setOf_10 rfl (by decide) rfl ?_
  refine g_sub [2, 3, 0] (lv2 := [(0, .ref (ad 0)), (1, .int x1), (3, .int (0 : Int32))]) rfl ?_
  refine g_it1 (pc := 11) (u_X7_setOf_11 C hr _ _ fun S6 => ?_) _ _ _
  refine g_aload_n (pc := 38) C dX7_setOf_38 (i := 0) rfl 0 rfl ?_
  refine gt_X7_cells (pc := 39) C q875 dX7_setOf_39 ?_
  refine g_iconst (pc := 42) (v := 1) C dX7_setOf_42 (by decide) ?_
  refine g_isub (pc := 43) C dX7_setOf_43 ?_
  refine g_nmi fun y7 => ?_
  refine g_istore_n (pc := 44) (i := 3) (lv2 := [(3, .int y7), (0, .ref (ad 0)), (1, .int x1)]) C dX7_setOf_44 rfl (by decide) rfl ?_
  refine g_sub [1, 2, 0] (lv2 := [(0, .ref (ad 0)), (1, .int x1), (3, .int y7)]) rfl ?_
  refine g_it1 (pc := 45) (u_X7_setOf_45 C hr _ _ fun S18 => ?_) _ _ _
  refine g_iconst (pc := 218) (v := 0) C dX7_setOf_218 (by decide) ?_
  refine g_istore_n (pc := 219) (i := 3) (lv2 := [(3, .int (0 : Int32)), (0, .ref (ad 0)), (1, .int x1)]) C dX7_setOf_219 rfl (by decide) rfl ?_
  refine g_iconst (pc := 220) (v := 0) C dX7_setOf_220 (by decide) ?_
  refine g_istore (pc := 221) (i := 4) (j := 0) (lv2 := [(4, .int (0 : Int32)), (3, .int (0 : Int32)), (0, .ref (ad 0)), (1, .int x1)]) C dX7_setOf_221 (by decide) rfl ?_
  refine g_sub [2, 3, 1, 0] (lv2 := [(0, .ref (ad 0)), (1, .int x1), (3, .int (0 : Int32)), (4, .int (0 : Int32))]) rfl ?_
  refine g_it2 (pc := 223) (u_X7_setOf_223 C hr _ _ fun S36 => ?_) _ _ _ _
  refine g_iload_n (pc := 415) C dX7_setOf_415 (i := 1) rfl 1 rfl ?_
  refine g_iconst (pc := 416) (v := -1) C dX7_setOf_416 (by decide) ?_
  refine g_icmp_ne (pc := 417) (tgt := 429) C dX7_setOf_417 (by decide) ?_ ?_
  · refine g_aload_n (pc := 429) C dX7_setOf_429 (i := 0) rfl 0 rfl ?_
    refine gt_X7_chosen (pc := 430) C q889 dX7_setOf_430 ?_
    refine g_iload_n (pc := 433) C dX7_setOf_433 (i := 1) rfl 1 rfl ?_
    refine al_X7_chosen (pc := 434) C dX7_setOf_434 ?_
    exact g_iret (pc := 435) C hr dX7_setOf_435
  · refine g_aload_n (pc := 420) C dX7_setOf_420 (i := 0) rfl 0 rfl ?_
    refine gt_X7_most (pc := 421) C q888 dX7_setOf_421 ?_
    refine g_iconst (pc := 424) (v := 0) C dX7_setOf_424 (by decide) ?_
    refine al_X7_most (pc := 425) C dX7_setOf_425 ?_
    refine g_goto (pc := 426) (tgt := 435) C dX7_setOf_426 (by decide) ?_
    exact g_iret (pc := 435) C hr dX7_setOf_435
noncomputable def m_X7_set (x1 : Int32) (S : St) : Option (Int32 × St) :=
if x1 = (-1 : Int32) then (
bnd (m_X7_setOf x1 S) fun r2 S1 =>
some (r2, S1))
else
bnd (m_X7_isCell x1 S) fun r4 S3 =>
if r4 = 0 then (
some ((-2 : Int32), S3))
else
bnd (m_X7_setOf x1 S3) fun r6 S5 =>
some (r6, S5)
set_option maxRecDepth 20000 in
theorem c_X7_set {l : Launch} {D : va_G} {ad : Nat → Nat} {cI cJ cZ : ClassId} {n : Nat} (hD : ∀ sz S, va_D (Adr ad n sz) (wM ad cI cJ cZ S)) {x1 : Int32} {S : St} {z : Int32 × St} (hf : m_X7_set x1 S = some z) : CtI l yX7_set cX7_set 2 (some .int) ({ frames := 6, cells := 0, slots := 0, locals := 142 } : Room) D (wM ad cI cJ cZ) (tyX cI cJ cZ) ad n [.ref (ad 0), .int x1] S z := by
  refine CtI.of hf (by decide +kernel) (Nat.le_of_ble_eq_true rfl) hD (fun p e s m args below meth c C hr => ?_)
  refine g_sub [0, 1] (lv2 := [(0, .ref (ad 0)), (1, .int x1)]) rfl ?_
  unfold m_X7_set
  refine g_iload_n (pc := 0) C dX7_set_0 (i := 1) rfl 1 rfl ?_
  refine g_iconst (pc := 1) (v := -1) C dX7_set_1 (by decide) ?_
  refine g_icmp_eq (pc := 2) (tgt := 13) C dX7_set_2 (by decide) ?_ ?_
  · refine g_aload_n (pc := 13) C dX7_set_13 (i := 0) rfl 0 rfl ?_
    refine g_iload_n (pc := 14) C dX7_set_14 (i := 1) rfl 1 rfl ?_
    refine g_callVi (pc := 15) (As := [.int _]) C q1171 mw_X7_setOf (fun _ hz => c_X7_setOf C.2.2.2.2.2.2.2.1 hz) ⟨Nat.le_of_ble_eq_true rfl, Nat.le_of_ble_eq_true rfl⟩ rfl rfl 0 rfl rfl rfl (Nat.le_of_ble_eq_true rfl) dX7_set_15 fun r2 S1 => ?_
    refine g_goto (pc := 18) (tgt := 23) C dX7_set_18 (by decide) ?_
    exact g_iret (pc := 23) C hr dX7_set_23
  · refine g_aload_n (pc := 5) C dX7_set_5 (i := 0) rfl 0 rfl ?_
    refine g_iload_n (pc := 6) C dX7_set_6 (i := 1) rfl 1 rfl ?_
    refine g_callVi (pc := 7) (As := [.int _]) C q983 mw_X7_isCell (fun _ hz => c_X7_isCell C.2.2.2.2.2.2.2.1 hz) ⟨Nat.le_of_ble_eq_true rfl, Nat.le_of_ble_eq_true rfl⟩ rfl rfl 0 rfl rfl rfl (Nat.le_of_ble_eq_true rfl) dX7_set_7 fun r4 S3 => ?_
    refine g_if_eq (pc := 10) (tgt := 21) C dX7_set_10 (by decide) ?_ ?_
    · refine g_bipush (pc := 21) (v := -2) C dX7_set_21 (by decide) ?_
      exact g_iret (pc := 23) C hr dX7_set_23
    · refine g_aload_n (pc := 13) C dX7_set_13 (i := 0) rfl 0 rfl ?_
      refine g_iload_n (pc := 14) C dX7_set_14 (i := 1) rfl 1 rfl ?_
      refine g_callVi (pc := 15) (As := [.int _]) C q1171 mw_X7_setOf (fun _ hz => c_X7_setOf C.2.2.2.2.2.2.2.1 hz) ⟨Nat.le_of_ble_eq_true rfl, Nat.le_of_ble_eq_true rfl⟩ rfl rfl 0 rfl rfl rfl (Nat.le_of_ble_eq_true rfl) dX7_set_15 fun r6 S5 => ?_
      refine g_goto (pc := 18) (tgt := 23) C dX7_set_18 (by decide) ?_
      exact g_iret (pc := 23) C hr dX7_set_23
noncomputable def m_X7_seen (x1 : Int32) (x2 : Int32) (S : St) : Option (Int32 × St) :=
bnd (m_X7_isFour x1 S) fun r2 S1 =>
if r2 = 0 then (
some ((-2 : Int32), S1))
else
bnd (m_X7_isTwelve x2 S1) fun r4 S3 =>
if r4 = 0 then (
some ((-2 : Int32), S3))
else
if (gI S3 44 0) = (8 : Int32) then (
some ((-4 : Int32), S3))
else
chk (gI S3 44 0) 8 <|
nm (sI S3 14 (ix (gI S3 44 0)) x1) fun S5 =>
chk (gI S5 44 0) 8 <|
nm (sI S5 15 (ix (gI S5 44 0)) x2) fun S6 =>
nm (sI S6 44 0 ((gI S6 44 0) + (1 : Int32))) fun S7 =>
some ((gI S7 44 0), S7)
set_option maxRecDepth 20000 in
theorem c_X7_seen {l : Launch} {D : va_G} {ad : Nat → Nat} {cI cJ cZ : ClassId} {n : Nat} (hD : ∀ sz S, va_D (Adr ad n sz) (wM ad cI cJ cZ S)) {x1 : Int32} {x2 : Int32} {S : St} {z : Int32 × St} (hf : m_X7_seen x1 x2 S = some z) : CtI l yX7_seen cX7_seen 3 (some .int) ({ frames := 2, cells := 0, slots := 0, locals := 42 } : Room) D (wM ad cI cJ cZ) (tyX cI cJ cZ) ad n [.ref (ad 0), .int x1, .int x2] S z := by
  refine CtI.of hf (by decide +kernel) (Nat.le_of_ble_eq_true rfl) hD (fun p e s m args below meth c C hr => ?_)
  refine g_sub [0, 1, 2] (lv2 := [(0, .ref (ad 0)), (1, .int x1), (2, .int x2)]) rfl ?_
  unfold m_X7_seen
  refine g_iload_n (pc := 0) C dX7_seen_0 (i := 1) rfl 1 rfl ?_
  refine g_callSi (pc := 1) (As := [.int _]) C q1002 mw_X7_isFour (fun _ hz => c_X7_isFour C.2.2.2.2.2.2.2.1 hz) ⟨Nat.le_of_ble_eq_true rfl, Nat.le_of_ble_eq_true rfl⟩ rfl rfl rfl (Nat.le_of_ble_eq_true rfl) dX7_seen_1 fun r2 S1 => ?_
  refine g_if_eq (pc := 4) (tgt := 14) C dX7_seen_4 (by decide) ?_ ?_
  · refine g_bipush (pc := 14) (v := -2) C dX7_seen_14 (by decide) ?_
    exact g_iret (pc := 16) C hr dX7_seen_16
  · refine g_iload_n (pc := 7) C dX7_seen_7 (i := 2) rfl 2 rfl ?_
    refine g_callSi (pc := 8) (As := [.int _]) C q995 mw_X7_isTwelve (fun _ hz => c_X7_isTwelve C.2.2.2.2.2.2.2.1 hz) ⟨Nat.le_of_ble_eq_true rfl, Nat.le_of_ble_eq_true rfl⟩ rfl rfl rfl (Nat.le_of_ble_eq_true rfl) dX7_seen_8 fun r4 S3 => ?_
    refine g_if_ne (pc := 11) (tgt := 17) C dX7_seen_11 (by decide) ?_ ?_
    · refine g_aload_n (pc := 17) C dX7_seen_17 (i := 0) rfl 0 rfl ?_
      refine gt_X7_sights (pc := 18) C q890 dX7_seen_18 ?_
      refine g_bipush (pc := 21) (v := 8) C dX7_seen_21 (by decide) ?_
      refine g_icmp_ne (pc := 23) (tgt := 29) C dX7_seen_23 (by decide) ?_ ?_
      · refine g_aload_n (pc := 29) C dX7_seen_29 (i := 0) rfl 0 rfl ?_
        refine gt_X7_seenSeason (pc := 30) C q891 dX7_seen_30 ?_
        refine g_aload_n (pc := 33) C dX7_seen_33 (i := 0) rfl 0 rfl ?_
        refine gt_X7_sights (pc := 34) C q890 dX7_seen_34 ?_
        refine g_iload_n (pc := 37) C dX7_seen_37 (i := 1) rfl 1 rfl ?_
        refine as_X7_seenSeason (pc := 38) C dX7_seen_38 fun S5 => ?_
        refine g_aload_n (pc := 39) C dX7_seen_39 (i := 0) rfl 0 rfl ?_
        refine gt_X7_seenHour (pc := 40) C q892 dX7_seen_40 ?_
        refine g_aload_n (pc := 43) C dX7_seen_43 (i := 0) rfl 0 rfl ?_
        refine gt_X7_sights (pc := 44) C q890 dX7_seen_44 ?_
        refine g_iload_n (pc := 47) C dX7_seen_47 (i := 2) rfl 2 rfl ?_
        refine as_X7_seenHour (pc := 48) C dX7_seen_48 fun S6 => ?_
        refine g_aload_n (pc := 49) C dX7_seen_49 (i := 0) rfl 0 rfl ?_
        refine g_dup (pc := 50) C dX7_seen_50 rfl ?_
        refine gt_X7_sights (pc := 51) C q890 dX7_seen_51 ?_
        refine g_iconst (pc := 54) (v := 1) C dX7_seen_54 (by decide) ?_
        refine g_iadd (pc := 55) C dX7_seen_55 ?_
        refine pt_X7_sights (pc := 56) C q890 dX7_seen_56 fun S7 => ?_
        refine g_aload_n (pc := 59) C dX7_seen_59 (i := 0) rfl 0 rfl ?_
        refine gt_X7_sights (pc := 60) C q890 dX7_seen_60 ?_
        exact g_iret (pc := 63) C hr dX7_seen_63
      · refine g_bipush (pc := 26) (v := -4) C dX7_seen_26 (by decide) ?_
        exact g_iret (pc := 28) C hr dX7_seen_28
    · refine g_bipush (pc := 14) (v := -2) C dX7_seen_14 (by decide) ?_
      exact g_iret (pc := 16) C hr dX7_seen_16
noncomputable def m_X7_forget (S : St) : Option (Int32 × St) :=
nm ((gI S 44 0)) fun y1 =>
nm (sI S 44 0 (0 : Int32)) fun S2 =>
some (y1, S2)
set_option maxRecDepth 20000 in
theorem c_X7_forget {l : Launch} {D : va_G} {ad : Nat → Nat} {cI cJ cZ : ClassId} {n : Nat} (hD : ∀ sz S, va_D (Adr ad n sz) (wM ad cI cJ cZ S)) {S : St} {z : Int32 × St} (hf : m_X7_forget S = some z) : CtI l yX7_forget cX7_forget 2 (some .int) ({ frames := 0, cells := 0, slots := 0, locals := 0 } : Room) D (wM ad cI cJ cZ) (tyX cI cJ cZ) ad n [.ref (ad 0)] S z := by
  refine CtI.of hf (by decide +kernel) (Nat.le_of_ble_eq_true rfl) hD (fun p e s m args below meth c C hr => ?_)
  refine g_sub [0] (lv2 := [(0, .ref (ad 0))]) rfl ?_
  unfold m_X7_forget
  refine g_aload_n (pc := 0) C dX7_forget_0 (i := 0) rfl 0 rfl ?_
  refine gt_X7_sights (pc := 1) C q890 dX7_forget_1 ?_
  refine g_nmi fun y1 => ?_
  refine g_istore_n (pc := 4) (i := 1) (lv2 := [(1, .int y1), (0, .ref (ad 0))]) C dX7_forget_4 rfl (by decide) rfl ?_
  refine g_aload_n (pc := 5) C dX7_forget_5 (i := 0) rfl 1 rfl ?_
  refine g_iconst (pc := 6) (v := 0) C dX7_forget_6 (by decide) ?_
  refine pt_X7_sights (pc := 7) C q890 dX7_forget_7 fun S2 => ?_
  refine g_iload_n (pc := 10) C dX7_forget_10 (i := 1) rfl 0 rfl ?_
  exact g_iret (pc := 11) C hr dX7_forget_11
noncomputable def b_X7_whoseOf_28 (x1 : Int32) (x3 : Int32) (x4 : Int32) (x5 : Int32) (k : Int32 → St → Option (Int32 × St)) (rec : Int32 → Int32 → St → Option (Int32 × St)) (x6 : Int32) (x7 : Int32) (S : St) : Option (Int32 × St) :=
if x7 < (gI S 44 0) then (
if x6 = 0 then (
rec (0 : Int32) (x7 + 1) S)
else
chk x7 8 <|
chk x7 8 <|
bnd (m_X7_shadeOf x5 (gI S 14 (ix x7)) (gI S 15 (ix x7)) S) fun r4 S3 =>
if r4 = (-1 : Int32) then (
rec (1 : Int32) (x7 + 1) S3)
else
rec (0 : Int32) (x7 + 1) S3)
else
k x6 S
noncomputable def b_X7_whoseOf_13 (x1 : Int32) (k : Int32 → Int32 → St → Option (Int32 × St)) (rec : Int32 → Int32 → Int32 → St → Option (Int32 × St)) (x3 : Int32) (x4 : Int32) (x5 : Int32) (S : St) : Option (Int32 × St) :=
if x5 < (gI S 41 0) then (
it2 (b_X7_whoseOf_28 x1 x3 x4 x5 (fun x6_S5 S5 =>
if x6_S5 = 0 then (
nm ((x3 ||| (0 : Int32))) fun y6 =>
if x6_S5 = 0 then (
nm ((x4 ||| (0 : Int32))) fun y7 =>
rec y6 y7 (x5 + 1) S5)
else
chk x5 12 <|
nm ((x4 ||| ((1 : Int32) <<< ((gI S5 4 (ix x5)) &&& 31)))) fun y8 =>
rec y6 y8 (x5 + 1) S5)
else
nm ((x3 ||| ((1 : Int32) <<< (x5 &&& 31)))) fun y9 =>
if x6_S5 = 0 then (
nm ((x4 ||| (0 : Int32))) fun y10 =>
rec y9 y10 (x5 + 1) S5)
else
chk x5 12 <|
nm ((x4 ||| ((1 : Int32) <<< ((gI S5 4 (ix x5)) &&& 31)))) fun y11 =>
rec y9 y11 (x5 + 1) S5)) 5000 (1 : Int32) (0 : Int32) S)
else
k x3 x4 S
noncomputable def m_X7_whoseOf (x1 : Int32) (S : St) : Option (Int32 × St) :=
bnd (m_X7_faultNow S) fun r2 S1 =>
it3 (b_X7_whoseOf_13 x1 (fun x3_S12 x4_S12 S12 =>
if x1 = 0 then (
some (x3_S12, S12))
else
bnd (m_X7_ones x4_S12 S12) fun r14 S13 =>
some (r14, S13))) 5000 (0 : Int32) (0 : Int32) (0 : Int32) S1
set_option maxRecDepth 20000 in
theorem u_X7_whoseOf_28 (C : Cx p s m args meth c cX7_whoseOf 8 RX7 D (tyX cI cJ cZ) ad n (wM ad cI cJ cZ)) (hr : meth.sig.returnType = (some .int)) (x1 : Int32) (x3 : Int32) (x4 : Int32) (x5 : Int32) (k : Int32 → St → Option (Int32 × St)) (hk : ∀ (x6 : Int32) (S : St), GM p l e ({ frames := 3, cells := 0, slots := 0, locals := 69 } : Room) s m args below meth c D ad n (wM ad cI cJ cZ) 8 (QI D (wM ad cI cJ cZ) ad n args s below) (k x6 S) S 79 [(0, .ref (ad 0)), (1, .int x1), (3, .int x3), (4, .int x4), (5, .int x5), (6, .int x6)] []) (rec : Int32 → Int32 → St → Option (Int32 × St)) (hrec : ∀ (x6 : Int32) (x7 : Int32) (S : St), GM p l e ({ frames := 3, cells := 0, slots := 0, locals := 69 } : Room) s m args below meth c D ad n (wM ad cI cJ cZ) 8 (QI D (wM ad cI cJ cZ) ad n args s below) (rec x6 x7 S) S 28 [(0, .ref (ad 0)), (1, .int x1), (3, .int x3), (4, .int x4), (5, .int x5), (6, .int x6), (7, .int x7)] []) (x6 : Int32) (x7 : Int32) (S : St) : GM p l e ({ frames := 3, cells := 0, slots := 0, locals := 69 } : Room) s m args below meth c D ad n (wM ad cI cJ cZ) 8 (QI D (wM ad cI cJ cZ) ad n args s below) (b_X7_whoseOf_28 x1 x3 x4 x5 k rec x6 x7 S) S 28 [(0, .ref (ad 0)), (1, .int x1), (3, .int x3), (4, .int x4), (5, .int x5), (6, .int x6), (7, .int x7)] [] := by
  unfold b_X7_whoseOf_28
  refine g_iload (pc := 28) C dX7_whoseOf_28 6 rfl ?_
  refine g_aload_n (pc := 30) C dX7_whoseOf_30 (i := 0) rfl 0 rfl ?_
  refine gt_X7_sights (pc := 31) C q890 dX7_whoseOf_31 ?_
  refine g_icmp_ge (pc := 34) (tgt := 79) C dX7_whoseOf_34 (by decide) ?_ ?_
  · refine g_sub [0, 1, 2, 3, 4, 5] rfl (hk _ _)
  · refine g_iload (pc := 37) C dX7_whoseOf_37 5 rfl ?_
    refine g_if_eq (pc := 39) (tgt := 70) C dX7_whoseOf_39 (by decide) ?_ ?_
    · refine g_iconst (pc := 70) (v := 0) C dX7_whoseOf_70 (by decide) ?_
      refine g_istore (pc := 71) (i := 6) (j := 0) (lv2 := [(6, .int (0 : Int32)), (0, .ref (ad 0)), (1, .int x1), (3, .int x3), (4, .int x4), (5, .int x5), (7, .int x7)]) C dX7_whoseOf_71 (by decide) rfl ?_
      refine g_iinc (pc := 73) (v := (x7 + 1)) (lv2 := [(7, .int (x7 + 1)), (6, .int (0 : Int32)), (0, .ref (ad 0)), (1, .int x1), (3, .int x3), (4, .int x4), (5, .int x5)]) C dX7_whoseOf_73 6 rfl rfl (by decide) rfl ?_
      refine g_goto (pc := 76) (tgt := 28) C dX7_whoseOf_76 (by decide) ?_
      refine g_sub [2, 3, 4, 5, 6, 1, 0] rfl (hrec _ _ _)
    · refine g_aload_n (pc := 42) C dX7_whoseOf_42 (i := 0) rfl 0 rfl ?_
      refine g_iload (pc := 43) C dX7_whoseOf_43 4 rfl ?_
      refine g_aload_n (pc := 45) C dX7_whoseOf_45 (i := 0) rfl 0 rfl ?_
      refine gt_X7_seenSeason (pc := 46) C q891 dX7_whoseOf_46 ?_
      refine g_iload (pc := 49) C dX7_whoseOf_49 6 rfl ?_
      refine al_X7_seenSeason (pc := 51) C dX7_whoseOf_51 ?_
      refine g_aload_n (pc := 52) C dX7_whoseOf_52 (i := 0) rfl 0 rfl ?_
      refine gt_X7_seenHour (pc := 53) C q892 dX7_whoseOf_53 ?_
      refine g_iload (pc := 56) C dX7_whoseOf_56 6 rfl ?_
      refine al_X7_seenHour (pc := 58) C dX7_whoseOf_58 ?_
      refine g_callVi (pc := 59) (As := [.int _, .int _, .int _]) C q1031 mw_X7_shadeOf (fun _ hz => c_X7_shadeOf C.2.2.2.2.2.2.2.1 hz) ⟨Nat.le_of_ble_eq_true rfl, Nat.le_of_ble_eq_true rfl⟩ rfl rfl 0 rfl rfl rfl (Nat.le_of_ble_eq_true rfl) dX7_whoseOf_59 fun r4 S3 => ?_
      refine g_iconst (pc := 62) (v := -1) C dX7_whoseOf_62 (by decide) ?_
      refine g_icmp_ne (pc := 63) (tgt := 70) C dX7_whoseOf_63 (by decide) ?_ ?_
      · refine g_iconst (pc := 70) (v := 0) C dX7_whoseOf_70 (by decide) ?_
        refine g_istore (pc := 71) (i := 6) (j := 0) (lv2 := [(6, .int (0 : Int32)), (0, .ref (ad 0)), (1, .int x1), (3, .int x3), (4, .int x4), (5, .int x5), (7, .int x7)]) C dX7_whoseOf_71 (by decide) rfl ?_
        refine g_iinc (pc := 73) (v := (x7 + 1)) (lv2 := [(7, .int (x7 + 1)), (6, .int (0 : Int32)), (0, .ref (ad 0)), (1, .int x1), (3, .int x3), (4, .int x4), (5, .int x5)]) C dX7_whoseOf_73 6 rfl rfl (by decide) rfl ?_
        refine g_goto (pc := 76) (tgt := 28) C dX7_whoseOf_76 (by decide) ?_
        refine g_sub [2, 3, 4, 5, 6, 1, 0] rfl (hrec _ _ _)
      · refine g_iconst (pc := 66) (v := 1) C dX7_whoseOf_66 (by decide) ?_
        refine g_goto (pc := 67) (tgt := 71) C dX7_whoseOf_67 (by decide) ?_
        refine g_istore (pc := 71) (i := 6) (j := 0) (lv2 := [(6, .int (1 : Int32)), (0, .ref (ad 0)), (1, .int x1), (3, .int x3), (4, .int x4), (5, .int x5), (7, .int x7)]) C dX7_whoseOf_71 (by decide) rfl ?_
        refine g_iinc (pc := 73) (v := (x7 + 1)) (lv2 := [(7, .int (x7 + 1)), (6, .int (1 : Int32)), (0, .ref (ad 0)), (1, .int x1), (3, .int x3), (4, .int x4), (5, .int x5)]) C dX7_whoseOf_73 6 rfl rfl (by decide) rfl ?_
        refine g_goto (pc := 76) (tgt := 28) C dX7_whoseOf_76 (by decide) ?_
        refine g_sub [2, 3, 4, 5, 6, 1, 0] rfl (hrec _ _ _)
set_option maxRecDepth 20000 in
theorem u_X7_whoseOf_13 (C : Cx p s m args meth c cX7_whoseOf 8 RX7 D (tyX cI cJ cZ) ad n (wM ad cI cJ cZ)) (hr : meth.sig.returnType = (some .int)) (x1 : Int32) (k : Int32 → Int32 → St → Option (Int32 × St)) (hk : ∀ (x3 : Int32) (x4 : Int32) (S : St), GM p l e ({ frames := 3, cells := 0, slots := 0, locals := 69 } : Room) s m args below meth c D ad n (wM ad cI cJ cZ) 8 (QI D (wM ad cI cJ cZ) ad n args s below) (k x3 x4 S) S 124 [(1, .int x1), (3, .int x3), (4, .int x4)] []) (rec : Int32 → Int32 → Int32 → St → Option (Int32 × St)) (hrec : ∀ (x3 : Int32) (x4 : Int32) (x5 : Int32) (S : St), GM p l e ({ frames := 3, cells := 0, slots := 0, locals := 69 } : Room) s m args below meth c D ad n (wM ad cI cJ cZ) 8 (QI D (wM ad cI cJ cZ) ad n args s below) (rec x3 x4 x5 S) S 13 [(0, .ref (ad 0)), (1, .int x1), (3, .int x3), (4, .int x4), (5, .int x5)] []) (x3 : Int32) (x4 : Int32) (x5 : Int32) (S : St) : GM p l e ({ frames := 3, cells := 0, slots := 0, locals := 69 } : Room) s m args below meth c D ad n (wM ad cI cJ cZ) 8 (QI D (wM ad cI cJ cZ) ad n args s below) (b_X7_whoseOf_13 x1 k rec x3 x4 x5 S) S 13 [(0, .ref (ad 0)), (1, .int x1), (3, .int x3), (4, .int x4), (5, .int x5)] [] := by
  unfold b_X7_whoseOf_13
  refine g_iload (pc := 13) C dX7_whoseOf_13 4 rfl ?_
  refine g_aload_n (pc := 15) C dX7_whoseOf_15 (i := 0) rfl 0 rfl ?_
  refine gt_X7_cells (pc := 16) C q875 dX7_whoseOf_16 ?_
  refine g_icmp_ge (pc := 19) (tgt := 124) C dX7_whoseOf_19 (by decide) ?_ ?_
  · refine g_sub [1, 2, 3] rfl (hk _ _ _)
  · refine g_iconst (pc := 22) (v := 1) C dX7_whoseOf_22 (by decide) ?_
    refine g_istore (pc := 23) (i := 6) (j := 0) (lv2 := [(6, .int (1 : Int32)), (0, .ref (ad 0)), (1, .int x1), (3, .int x3), (4, .int x4), (5, .int x5)]) C dX7_whoseOf_23 (by decide) rfl ?_
    refine g_iconst (pc := 25) (v := 0) C dX7_whoseOf_25 (by decide) ?_
    refine g_istore (pc := 26) (i := 7) (j := 0) (lv2 := [(7, .int (0 : Int32)), (6, .int (1 : Int32)), (0, .ref (ad 0)), (1, .int x1), (3, .int x3), (4, .int x4), (5, .int x5)]) C dX7_whoseOf_26 (by decide) rfl ?_
    refine g_sub [2, 3, 4, 5, 6, 1, 0] (lv2 := [(0, .ref (ad 0)), (1, .int x1), (3, .int x3), (4, .int x4), (5, .int x5), (6, .int (1 : Int32)), (7, .int (0 : Int32))]) rfl ?_
    refine g_it2 (pc := 28) (u_X7_whoseOf_28 C hr _ _ _ _ _ fun x6_S5 S5 => ?_) _ _ _ _
    refine g_iload_n (pc := 79) C dX7_whoseOf_79 (i := 3) rfl 2 rfl ?_
    refine g_iload (pc := 80) C dX7_whoseOf_80 5 rfl ?_
    refine g_if_eq (pc := 82) (tgt := 92) C dX7_whoseOf_82 (by decide) ?_ ?_
    · refine g_iconst (pc := 92) (v := 0) C dX7_whoseOf_92 (by decide) ?_
      refine g_ior (pc := 93) C dX7_whoseOf_93 ?_
      refine g_nmi fun y6 => ?_
      refine g_istore_n (pc := 94) (i := 3) (lv2 := [(3, .int y6), (0, .ref (ad 0)), (1, .int x1), (4, .int x4), (5, .int x5), (6, .int x6_S5)]) C dX7_whoseOf_94 rfl (by decide) rfl ?_
      refine g_iload (pc := 95) C dX7_whoseOf_95 3 rfl ?_
      refine g_iload (pc := 97) C dX7_whoseOf_97 5 rfl ?_
      refine g_if_eq (pc := 99) (tgt := 114) C dX7_whoseOf_99 (by decide) ?_ ?_
      · refine g_iconst (pc := 114) (v := 0) C dX7_whoseOf_114 (by decide) ?_
        refine g_ior (pc := 115) C dX7_whoseOf_115 ?_
        refine g_nmi fun y7 => ?_
        refine g_istore (pc := 116) (i := 4) (j := 0) (lv2 := [(4, .int y7), (3, .int y6), (0, .ref (ad 0)), (1, .int x1), (5, .int x5), (6, .int x6_S5)]) C dX7_whoseOf_116 (by decide) rfl ?_
        refine g_iinc (pc := 118) (v := (x5 + 1)) (lv2 := [(5, .int (x5 + 1)), (4, .int y7), (3, .int y6), (0, .ref (ad 0)), (1, .int x1), (6, .int x6_S5)]) C dX7_whoseOf_118 4 rfl rfl (by decide) rfl ?_
        refine g_goto (pc := 121) (tgt := 13) C dX7_whoseOf_121 (by decide) ?_
        refine g_sub [3, 4, 2, 1, 0] rfl (hrec _ _ _ _)
      · refine g_iconst (pc := 102) (v := 1) C dX7_whoseOf_102 (by decide) ?_
        refine g_aload_n (pc := 103) C dX7_whoseOf_103 (i := 0) rfl 1 rfl ?_
        refine gt_X7_owners (pc := 104) C q880 dX7_whoseOf_104 ?_
        refine g_iload (pc := 107) C dX7_whoseOf_107 4 rfl ?_
        refine al_X7_owners (pc := 109) C dX7_whoseOf_109 ?_
        refine g_ishl (pc := 110) C dX7_whoseOf_110 ?_
        refine g_goto (pc := 111) (tgt := 115) C dX7_whoseOf_111 (by decide) ?_
        refine g_ior (pc := 115) C dX7_whoseOf_115 ?_
        refine g_nmi fun y8 => ?_
        refine g_istore (pc := 116) (i := 4) (j := 0) (lv2 := [(4, .int y8), (3, .int y6), (0, .ref (ad 0)), (1, .int x1), (5, .int x5), (6, .int x6_S5)]) C dX7_whoseOf_116 (by decide) rfl ?_
        refine g_iinc (pc := 118) (v := (x5 + 1)) (lv2 := [(5, .int (x5 + 1)), (4, .int y8), (3, .int y6), (0, .ref (ad 0)), (1, .int x1), (6, .int x6_S5)]) C dX7_whoseOf_118 4 rfl rfl (by decide) rfl ?_
        refine g_goto (pc := 121) (tgt := 13) C dX7_whoseOf_121 (by decide) ?_
        refine g_sub [3, 4, 2, 1, 0] rfl (hrec _ _ _ _)
    · refine g_iconst (pc := 85) (v := 1) C dX7_whoseOf_85 (by decide) ?_
      refine g_iload (pc := 86) C dX7_whoseOf_86 4 rfl ?_
      refine g_ishl (pc := 88) C dX7_whoseOf_88 ?_
      refine g_goto (pc := 89) (tgt := 93) C dX7_whoseOf_89 (by decide) ?_
      refine g_ior (pc := 93) C dX7_whoseOf_93 ?_
      refine g_nmi fun y9 => ?_
      refine g_istore_n (pc := 94) (i := 3) (lv2 := [(3, .int y9), (0, .ref (ad 0)), (1, .int x1), (4, .int x4), (5, .int x5), (6, .int x6_S5)]) C dX7_whoseOf_94 rfl (by decide) rfl ?_
      refine g_iload (pc := 95) C dX7_whoseOf_95 3 rfl ?_
      refine g_iload (pc := 97) C dX7_whoseOf_97 5 rfl ?_
      refine g_if_eq (pc := 99) (tgt := 114) C dX7_whoseOf_99 (by decide) ?_ ?_
      · refine g_iconst (pc := 114) (v := 0) C dX7_whoseOf_114 (by decide) ?_
        refine g_ior (pc := 115) C dX7_whoseOf_115 ?_
        refine g_nmi fun y10 => ?_
        refine g_istore (pc := 116) (i := 4) (j := 0) (lv2 := [(4, .int y10), (3, .int y9), (0, .ref (ad 0)), (1, .int x1), (5, .int x5), (6, .int x6_S5)]) C dX7_whoseOf_116 (by decide) rfl ?_
        refine g_iinc (pc := 118) (v := (x5 + 1)) (lv2 := [(5, .int (x5 + 1)), (4, .int y10), (3, .int y9), (0, .ref (ad 0)), (1, .int x1), (6, .int x6_S5)]) C dX7_whoseOf_118 4 rfl rfl (by decide) rfl ?_
        refine g_goto (pc := 121) (tgt := 13) C dX7_whoseOf_121 (by decide) ?_
        refine g_sub [3, 4, 2, 1, 0] rfl (hrec _ _ _ _)
      · refine g_iconst (pc := 102) (v := 1) C dX7_whoseOf_102 (by decide) ?_
        refine g_aload_n (pc := 103) C dX7_whoseOf_103 (i := 0) rfl 1 rfl ?_
        refine gt_X7_owners (pc := 104) C q880 dX7_whoseOf_104 ?_
        refine g_iload (pc := 107) C dX7_whoseOf_107 4 rfl ?_
        refine al_X7_owners (pc := 109) C dX7_whoseOf_109 ?_
        refine g_ishl (pc := 110) C dX7_whoseOf_110 ?_
        refine g_goto (pc := 111) (tgt := 115) C dX7_whoseOf_111 (by decide) ?_
        refine g_ior (pc := 115) C dX7_whoseOf_115 ?_
        refine g_nmi fun y11 => ?_
        refine g_istore (pc := 116) (i := 4) (j := 0) (lv2 := [(4, .int y11), (3, .int y9), (0, .ref (ad 0)), (1, .int x1), (5, .int x5), (6, .int x6_S5)]) C dX7_whoseOf_116 (by decide) rfl ?_
        refine g_iinc (pc := 118) (v := (x5 + 1)) (lv2 := [(5, .int (x5 + 1)), (4, .int y11), (3, .int y9), (0, .ref (ad 0)), (1, .int x1), (6, .int x6_S5)]) C dX7_whoseOf_118 4 rfl rfl (by decide) rfl ?_
        refine g_goto (pc := 121) (tgt := 13) C dX7_whoseOf_121 (by decide) ?_
        refine g_sub [3, 4, 2, 1, 0] rfl (hrec _ _ _ _)
set_option maxRecDepth 20000 in
theorem c_X7_whoseOf {l : Launch} {D : va_G} {ad : Nat → Nat} {cI cJ cZ : ClassId} {n : Nat} (hD : ∀ sz S, va_D (Adr ad n sz) (wM ad cI cJ cZ S)) {x1 : Int32} {S : St} {z : Int32 × St} (hf : m_X7_whoseOf x1 S = some z) : CtI l yX7_whoseOf cX7_whoseOf 8 (some .int) ({ frames := 3, cells := 0, slots := 0, locals := 69 } : Room) D (wM ad cI cJ cZ) (tyX cI cJ cZ) ad n [.ref (ad 0), .int x1] S z := by
  refine CtI.of hf (by decide +kernel) (Nat.le_of_ble_eq_true rfl) hD (fun p e s m args below meth c C hr => ?_)
  refine g_sub [0, 1] (lv2 := [(0, .ref (ad 0)), (1, .int x1)]) rfl ?_
  unfold m_X7_whoseOf
  refine g_aload_n (pc := 0) C dX7_whoseOf_0 (i := 0) rfl 0 rfl ?_
  refine g_callVi (pc := 1) (As := []) C q971 mw_X7_faultNow (fun _ hz => c_X7_faultNow C.2.2.2.2.2.2.2.1 hz) ⟨Nat.le_of_ble_eq_true rfl, Nat.le_of_ble_eq_true rfl⟩ rfl rfl 0 rfl rfl rfl (Nat.le_of_ble_eq_true rfl) dX7_whoseOf_1 fun r2 S1 => ?_
  refine g_istore_n (pc := 4) (i := 2) (lv2 := [(2, .int r2), (0, .ref (ad 0)), (1, .int x1)]) C dX7_whoseOf_4 rfl (by decide) rfl ?_
  refine g_iconst (pc := 5) (v := 0) C dX7_whoseOf_5 (by decide) ?_
  refine g_istore_n (pc := 6) (i := 3) (lv2 := [(3, .int (0 : Int32)), (2, .int r2), (0, .ref (ad 0)), (1, .int x1)]) C dX7_whoseOf_6 rfl (by decide) rfl ?_
  refine g_iconst (pc := 7) (v := 0) C dX7_whoseOf_7 (by decide) ?_
  refine g_istore (pc := 8) (i := 4) (j := 0) (lv2 := [(4, .int (0 : Int32)), (3, .int (0 : Int32)), (2, .int r2), (0, .ref (ad 0)), (1, .int x1)]) C dX7_whoseOf_8 (by decide) rfl ?_
  refine g_iconst (pc := 10) (v := 0) C dX7_whoseOf_10 (by decide) ?_
  refine g_istore (pc := 11) (i := 5) (j := 0) (lv2 := [(5, .int (0 : Int32)), (4, .int (0 : Int32)), (3, .int (0 : Int32)), (2, .int r2), (0, .ref (ad 0)), (1, .int x1)]) C dX7_whoseOf_11 (by decide) rfl ?_
  refine g_sub [4, 5, 2, 1, 0] (lv2 := [(0, .ref (ad 0)), (1, .int x1), (3, .int (0 : Int32)), (4, .int (0 : Int32)), (5, .int (0 : Int32))]) rfl ?_
  refine g_it3 (pc := 13) (u_X7_whoseOf_13 C hr _ _ fun x3_S12 x4_S12 S12 => ?_) _ _ _ _ _
  refine g_iload_n (pc := 124) C dX7_whoseOf_124 (i := 1) rfl 0 rfl ?_
  refine g_if_ne (pc := 125) (tgt := 132) C dX7_whoseOf_125 (by decide) ?_ ?_
  · refine g_iload (pc := 132) C dX7_whoseOf_132 2 rfl ?_
    refine g_callSi (pc := 134) (As := [.int _]) C q1055 mw_X7_ones (fun _ hz => c_X7_ones C.2.2.2.2.2.2.2.1 hz) ⟨Nat.le_of_ble_eq_true rfl, Nat.le_of_ble_eq_true rfl⟩ rfl rfl rfl (Nat.le_of_ble_eq_true rfl) dX7_whoseOf_134 fun r14 S13 => ?_
    exact g_iret (pc := 137) C hr dX7_whoseOf_137
  · refine g_iload_n (pc := 128) C dX7_whoseOf_128 (i := 3) rfl 1 rfl ?_
    refine g_goto (pc := 129) (tgt := 137) C dX7_whoseOf_129 (by decide) ?_
    exact g_iret (pc := 137) C hr dX7_whoseOf_137
noncomputable def m_X7_whose (x1 : Int32) (S : St) : Option (Int32 × St) :=
bnd (m_X7_in x1 (0 : Int32) (1 : Int32) S) fun r2 S1 =>
if r2 = 0 then (
some ((-2 : Int32), S1))
else
bnd (m_X7_whoseOf x1 S1) fun r4 S3 =>
some (r4, S3)
set_option maxRecDepth 20000 in
theorem c_X7_whose {l : Launch} {D : va_G} {ad : Nat → Nat} {cI cJ cZ : ClassId} {n : Nat} (hD : ∀ sz S, va_D (Adr ad n sz) (wM ad cI cJ cZ S)) {x1 : Int32} {S : St} {z : Int32 × St} (hf : m_X7_whose x1 S = some z) : CtI l yX7_whose cX7_whose 2 (some .int) ({ frames := 4, cells := 0, slots := 0, locals := 96 } : Room) D (wM ad cI cJ cZ) (tyX cI cJ cZ) ad n [.ref (ad 0), .int x1] S z := by
  refine CtI.of hf (by decide +kernel) (Nat.le_of_ble_eq_true rfl) hD (fun p e s m args below meth c C hr => ?_)
  refine g_sub [0, 1] (lv2 := [(0, .ref (ad 0)), (1, .int x1)]) rfl ?_
  unfold m_X7_whose
  refine g_iload_n (pc := 0) C dX7_whose_0 (i := 1) rfl 1 rfl ?_
  refine g_iconst (pc := 1) (v := 0) C dX7_whose_1 (by decide) ?_
  refine g_iconst (pc := 2) (v := 1) C dX7_whose_2 (by decide) ?_
  refine g_callSi (pc := 3) (As := [.int _, .int _, .int _]) C q960 mw_X7_in (fun _ hz => c_X7_in C.2.2.2.2.2.2.2.1 hz) ⟨Nat.le_of_ble_eq_true rfl, Nat.le_of_ble_eq_true rfl⟩ rfl rfl rfl (Nat.le_of_ble_eq_true rfl) dX7_whose_3 fun r2 S1 => ?_
  refine g_if_eq (pc := 6) (tgt := 17) C dX7_whose_6 (by decide) ?_ ?_
  · refine g_bipush (pc := 17) (v := -2) C dX7_whose_17 (by decide) ?_
    exact g_iret (pc := 19) C hr dX7_whose_19
  · refine g_aload_n (pc := 9) C dX7_whose_9 (i := 0) rfl 0 rfl ?_
    refine g_iload_n (pc := 10) C dX7_whose_10 (i := 1) rfl 1 rfl ?_
    refine g_callVi (pc := 11) (As := [.int _]) C q1190 mw_X7_whoseOf (fun _ hz => c_X7_whoseOf C.2.2.2.2.2.2.2.1 hz) ⟨Nat.le_of_ble_eq_true rfl, Nat.le_of_ble_eq_true rfl⟩ rfl rfl 0 rfl rfl rfl (Nat.le_of_ble_eq_true rfl) dX7_whose_11 fun r4 S3 => ?_
    refine g_goto (pc := 14) (tgt := 19) C dX7_whose_14 (by decide) ?_
    exact g_iret (pc := 19) C hr dX7_whose_19
noncomputable def m_X7_clouds (x1 : Int32) (x2 : Int32) (S : St) : Option (Int32 × St) :=
bnd (m_X7_isFour x1 S) fun r2 S1 =>
if r2 = 0 then (
some ((-2 : Int32), S1))
else
bnd (m_X7_in x2 (0 : Int32) (16 : Int32) S1) fun r4 S3 =>
if r4 = 0 then (
some ((-2 : Int32), S3))
else
chk x1 4 <|
nm ((gI S3 6 (ix x1))) fun y5 =>
chk x1 4 <|
nm (sI S3 6 (ix x1) x2) fun S6 =>
some (y5, S6)
set_option maxRecDepth 20000 in
theorem c_X7_clouds {l : Launch} {D : va_G} {ad : Nat → Nat} {cI cJ cZ : ClassId} {n : Nat} (hD : ∀ sz S, va_D (Adr ad n sz) (wM ad cI cJ cZ S)) {x1 : Int32} {x2 : Int32} {S : St} {z : Int32 × St} (hf : m_X7_clouds x1 x2 S = some z) : CtI l yX7_clouds cX7_clouds 4 (some .int) ({ frames := 2, cells := 0, slots := 0, locals := 42 } : Room) D (wM ad cI cJ cZ) (tyX cI cJ cZ) ad n [.ref (ad 0), .int x1, .int x2] S z := by
  refine CtI.of hf (by decide +kernel) (Nat.le_of_ble_eq_true rfl) hD (fun p e s m args below meth c C hr => ?_)
  refine g_sub [0, 1, 2] (lv2 := [(0, .ref (ad 0)), (1, .int x1), (2, .int x2)]) rfl ?_
  unfold m_X7_clouds
  refine g_iload_n (pc := 0) C dX7_clouds_0 (i := 1) rfl 1 rfl ?_
  refine g_callSi (pc := 1) (As := [.int _]) C q1002 mw_X7_isFour (fun _ hz => c_X7_isFour C.2.2.2.2.2.2.2.1 hz) ⟨Nat.le_of_ble_eq_true rfl, Nat.le_of_ble_eq_true rfl⟩ rfl rfl rfl (Nat.le_of_ble_eq_true rfl) dX7_clouds_1 fun r2 S1 => ?_
  refine g_if_eq (pc := 4) (tgt := 17) C dX7_clouds_4 (by decide) ?_ ?_
  · refine g_bipush (pc := 17) (v := -2) C dX7_clouds_17 (by decide) ?_
    exact g_iret (pc := 19) C hr dX7_clouds_19
  · refine g_iload_n (pc := 7) C dX7_clouds_7 (i := 2) rfl 2 rfl ?_
    refine g_iconst (pc := 8) (v := 0) C dX7_clouds_8 (by decide) ?_
    refine g_bipush (pc := 9) (v := 16) C dX7_clouds_9 (by decide) ?_
    refine g_callSi (pc := 11) (As := [.int _, .int _, .int _]) C q960 mw_X7_in (fun _ hz => c_X7_in C.2.2.2.2.2.2.2.1 hz) ⟨Nat.le_of_ble_eq_true rfl, Nat.le_of_ble_eq_true rfl⟩ rfl rfl rfl (Nat.le_of_ble_eq_true rfl) dX7_clouds_11 fun r4 S3 => ?_
    refine g_if_ne (pc := 14) (tgt := 20) C dX7_clouds_14 (by decide) ?_ ?_
    · refine g_aload_n (pc := 20) C dX7_clouds_20 (i := 0) rfl 0 rfl ?_
      refine gt_X7_cloudOf (pc := 21) C q882 dX7_clouds_21 ?_
      refine g_iload_n (pc := 24) C dX7_clouds_24 (i := 1) rfl 1 rfl ?_
      refine al_X7_cloudOf (pc := 25) C dX7_clouds_25 ?_
      refine g_nmi fun y5 => ?_
      refine g_istore_n (pc := 26) (i := 3) (lv2 := [(3, .int y5), (0, .ref (ad 0)), (1, .int x1), (2, .int x2)]) C dX7_clouds_26 rfl (by decide) rfl ?_
      refine g_aload_n (pc := 27) C dX7_clouds_27 (i := 0) rfl 1 rfl ?_
      refine gt_X7_cloudOf (pc := 28) C q882 dX7_clouds_28 ?_
      refine g_iload_n (pc := 31) C dX7_clouds_31 (i := 1) rfl 2 rfl ?_
      refine g_iload_n (pc := 32) C dX7_clouds_32 (i := 2) rfl 3 rfl ?_
      refine as_X7_cloudOf (pc := 33) C dX7_clouds_33 fun S6 => ?_
      refine g_iload_n (pc := 34) C dX7_clouds_34 (i := 3) rfl 0 rfl ?_
      exact g_iret (pc := 35) C hr dX7_clouds_35
    · refine g_bipush (pc := 17) (v := -2) C dX7_clouds_17 (by decide) ?_
      exact g_iret (pc := 19) C hr dX7_clouds_19
end MM
