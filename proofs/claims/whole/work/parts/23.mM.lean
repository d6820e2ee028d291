section MM
variable {p : Program} {l : Launch} {e : Env} {s : State} {m : MethodId} {args : Array Value} {below : List Frame} {meth : Method} {c : Code} {D : va_G} {ad : Nat → Nat} {n : Nat} {cI cJ cZ : ClassId}
noncomputable def b_X7_clearOf_48 (x3 : Int32) (x4 : Int32) (x5 : Int32) (x6 : Int32) (x7 : Int64) (k : St → Option (Int64 × St)) (rec : Int32 → St → Option (Int64 × St)) (x9 : Int32) (S : St) : Option (Int64 × St) :=
if x9 < (14 : Int32) then (
if x9 = 0 then (
chk x9 14 <|
nm (sL S 16 (ix x9) (1 : Int64)) fun S7 =>
rec (x9 + 1) S7)
else
chk x9 14 <|
nm (sL S 16 (ix x9) (0 : Int64)) fun S6 =>
rec (x9 + 1) S6)
else
k S
noncomputable def b_X7_clearOf_100 (x3 : Int32) (x4 : Int32) (x5 : Int32) (x6 : Int32) (x7 : Int64) (x9 : Int32) (k : St → Option (Int64 × St)) (rec : Int32 → St → Option (Int64 × St)) (x10 : Int32) (S : St) : Option (Int64 × St) :=
if x10 < 0 then (
k S)
else
chk x10 14 <|
if 0 < x10 then (
chk (x10 - (1 : Int32)) 14 <|
chk x10 14 <|
nm (sL S 16 (ix x10) (((gL S 16 (ix x10)) * (((16 : Int32) - x6)).toInt64) + ((gL S 16 (ix (x10 - (1 : Int32)))) * (x6).toInt64))) fun S11 =>
rec (x10 + (-1)) S11)
else
chk x10 14 <|
nm (sL S 16 (ix x10) (((gL S 16 (ix x10)) * (((16 : Int32) - x6)).toInt64) + (0 : Int64))) fun S10 =>
rec (x10 + (-1)) S10
noncomputable def b_X7_clearOf_81 (x3 : Int32) (x4 : Int32) (x5 : Int32) (x6 : Int32) (k : Int64 → St → Option (Int64 × St)) (rec : Int64 → Int32 → St → Option (Int64 × St)) (x7 : Int64) (x9 : Int32) (S : St) : Option (Int64 × St) :=
if x9 < x5 then (
nm ((x7 * (16 : Int64))) fun y9 =>
it1 (b_X7_clearOf_100 x3 x4 x5 x6 y9 x9 (fun S12 =>
rec y9 (x9 + 1) S12)) 5000 (13 : Int32) S)
else
k x7 S
noncomputable def b_X7_clearOf_167 (x4 : Int32) (x7 : Int64) (k : Int64 → St → Option (Int64 × St)) (rec : Int64 → Int32 → St → Option (Int64 × St)) (x9 : Int64) (x11 : Int32) (S : St) : Option (Int64 × St) :=
if x11 < (14 : Int32) then (
chk x11 14 <|
nm ((x9 + (gL S 16 (ix x11)))) fun y14 =>
rec y14 (x11 + 1) S)
else
k x9 S
noncomputable def m_X7_clearOf (x1 : Int32) (x2 : Int32) (x3 : Int32) (x4 : Int32) (S : St) : Option (Int64 × St) :=
bnd (m_X7_lightOf x1 x2 S) fun r2 S1 =>
bnd (m_X7_ones r2 S1) fun r4 S3 =>
chk x2 4 <|
nm (((16 : Int32) - (gI S3 6 (ix x2)))) fun y5 =>
if x3 = (-1 : Int32) then (
bnd (m_X7_lowest ((r4 * y5)).toInt64 (16 : Int64) x4 S3) fun r19 S18 =>
some (r19, S18))
else
it1 (b_X7_clearOf_48 x3 x4 r4 y5 (1 : Int64) (fun S8 =>
it2 (b_X7_clearOf_81 x3 x4 r4 y5 (fun x7_S13 S13 =>
it2 (b_X7_clearOf_167 x4 x7_S13 (fun x9_S15 S15 =>
bnd (m_X7_lowest x9_S15 x7_S13 x4 S15) fun r17 S16 =>
some (r17, S16))) 5000 (0 : Int64) x3 S13)) 5000 (1 : Int64) (0 : Int32) S8)) 5000 (0 : Int32) S3
set_option maxRecDepth 20000 in
theorem u_X7_clearOf_48 (C : Cx p s m args meth c cX7_clearOf 12 RX7 D (tyX cI cJ cZ) ad n (wM ad cI cJ cZ)) (hr : meth.sig.returnType = (some .long)) (x3 : Int32) (x4 : Int32) (x5 : Int32) (x6 : Int32) (x7 : Int64) (k : St → Option (Int64 × St)) (hk : ∀ (S : St), GM p l e ({ frames := 3, cells := 0, slots := 0, locals := 72 } : Room) s m args below meth c D ad n (wM ad cI cJ cZ) 12 (QL D (wM ad cI cJ cZ) ad n args s below) (k S) S 78 [(0, .ref (ad 0)), (3, .int x3), (4, .int x4), (5, .int x5), (6, .int x6), (7, .long x7)] []) (rec : Int32 → St → Option (Int64 × St)) (hrec : ∀ (x9 : Int32) (S : St), GM p l e ({ frames := 3, cells := 0, slots := 0, locals := 72 } : Room) s m args below meth c D ad n (wM ad cI cJ cZ) 12 (QL D (wM ad cI cJ cZ) ad n args s below) (rec x9 S) S 48 [(0, .ref (ad 0)), (3, .int x3), (4, .int x4), (5, .int x5), (6, .int x6), (7, .long x7), (9, .int x9)] []) (x9 : Int32) (S : St) : GM p l e ({ frames := 3, cells := 0, slots := 0, locals := 72 } : Room) s m args below meth c D ad n (wM ad cI cJ cZ) 12 (QL D (wM ad cI cJ cZ) ad n args s below) (b_X7_clearOf_48 x3 x4 x5 x6 x7 k rec x9 S) S 48 [(0, .ref (ad 0)), (3, .int x3), (4, .int x4), (5, .int x5), (6, .int x6), (7, .long x7), (9, .int x9)] [] := by
  unfold b_X7_clearOf_48
  refine g_iload (pc := 48) C dX7_clearOf_48 6 rfl ?_
  refine g_bipush (pc := 50) (v := 14) C dX7_clearOf_50 (by decide) ?_
  refine g_icmp_ge (pc := 52) (tgt := 78) C dX7_clearOf_52 (by decide) ?_ ?_
  · refine g_sub [0, 1, 2, 3, 4, 5] rfl (hk _)
  · refine g_aload_n (pc := 55) C dX7_clearOf_55 (i := 0) rfl 0 rfl ?_
    refine gt_X7_parts (pc := 56) C q893 dX7_clearOf_56 ?_
    refine g_iload (pc := 59) C dX7_clearOf_59 6 rfl ?_
    refine g_iload (pc := 61) C dX7_clearOf_61 6 rfl ?_
    refine g_if_ne (pc := 63) (tgt := 70) C dX7_clearOf_63 (by decide) ?_ ?_
    · refine g_lconst (pc := 70) (v := 0) C dX7_clearOf_70 rfl ?_
      refine as_X7_parts (pc := 71) C dX7_clearOf_71 fun S6 => ?_
      refine g_iinc (pc := 72) (v := (x9 + 1)) (lv2 := [(9, .int (x9 + 1)), (0, .ref (ad 0)), (3, .int x3), (4, .int x4), (5, .int x5), (6, .int x6), (7, .long x7)]) C dX7_clearOf_72 6 rfl rfl (by decide) rfl ?_
      refine g_goto (pc := 75) (tgt := 48) C dX7_clearOf_75 (by decide) ?_
      refine g_sub [1, 2, 3, 4, 5, 6, 0] rfl (hrec _ _)
    · refine g_lconst (pc := 66) (v := 1) C dX7_clearOf_66 rfl ?_
      refine g_goto (pc := 67) (tgt := 71) C dX7_clearOf_67 (by decide) ?_
      refine as_X7_parts (pc := 71) C dX7_clearOf_71 fun S7 => ?_
      refine g_iinc (pc := 72) (v := (x9 + 1)) (lv2 := [(9, .int (x9 + 1)), (0, .ref (ad 0)), (3, .int x3), (4, .int x4), (5, .int x5), (6, .int x6), (7, .long x7)]) C dX7_clearOf_72 6 rfl rfl (by decide) rfl ?_
      refine g_goto (pc := 75) (tgt := 48) C dX7_clearOf_75 (by decide) ?_
      refine g_sub [1, 2, 3, 4, 5, 6, 0] rfl (hrec _ _)
set_option maxRecDepth 20000 in
theorem u_X7_clearOf_100 (C : Cx p s m args meth c cX7_clearOf 12 RX7 D (tyX cI cJ cZ) ad n (wM ad cI cJ cZ)) (hr : meth.sig.returnType = (some .long)) (x3 : Int32) (x4 : Int32) (x5 : Int32) (x6 : Int32) (x7 : Int64) (x9 : Int32) (k : St → Option (Int64 × St)) (hk : ∀ (S : St), GM p l e ({ frames := 3, cells := 0, slots := 0, locals := 72 } : Room) s m args below meth c D ad n (wM ad cI cJ cZ) 12 (QL D (wM ad cI cJ cZ) ad n args s below) (k S) S 155 [(0, .ref (ad 0)), (3, .int x3), (4, .int x4), (5, .int x5), (6, .int x6), (7, .long x7), (9, .int x9)] []) (rec : Int32 → St → Option (Int64 × St)) (hrec : ∀ (x10 : Int32) (S : St), GM p l e ({ frames := 3, cells := 0, slots := 0, locals := 72 } : Room) s m args below meth c D ad n (wM ad cI cJ cZ) 12 (QL D (wM ad cI cJ cZ) ad n args s below) (rec x10 S) S 100 [(0, .ref (ad 0)), (3, .int x3), (4, .int x4), (5, .int x5), (6, .int x6), (7, .long x7), (9, .int x9), (10, .int x10)] []) (x10 : Int32) (S : St) : GM p l e ({ frames := 3, cells := 0, slots := 0, locals := 72 } : Room) s m args below meth c D ad n (wM ad cI cJ cZ) 12 (QL D (wM ad cI cJ cZ) ad n args s below) (b_X7_clearOf_100 x3 x4 x5 x6 x7 x9 k rec x10 S) S 100 [(0, .ref (ad 0)), (3, .int x3), (4, .int x4), (5, .int x5), (6, .int x6), (7, .long x7), (9, .int x9), (10, .int x10)] [] := by
  unfold b_X7_clearOf_100
  refine g_iload (pc := 100) C dX7_clearOf_100 7 rfl ?_
  refine g_if_lt (pc := 102) (tgt := 155) C dX7_clearOf_102 (by decide) ?_ ?_
  · refine g_sub [0, 1, 2, 3, 4, 5, 6] rfl (hk _)
  · refine g_aload_n (pc := 105) C dX7_clearOf_105 (i := 0) rfl 0 rfl ?_
    refine gt_X7_parts (pc := 106) C q893 dX7_clearOf_106 ?_
    refine g_iload (pc := 109) C dX7_clearOf_109 7 rfl ?_
    refine g_aload_n (pc := 111) C dX7_clearOf_111 (i := 0) rfl 0 rfl ?_
    refine gt_X7_parts (pc := 112) C q893 dX7_clearOf_112 ?_
    refine g_iload (pc := 115) C dX7_clearOf_115 7 rfl ?_
    refine al_X7_parts (pc := 117) C dX7_clearOf_117 ?_
    refine g_bipush (pc := 118) (v := 16) C dX7_clearOf_118 (by decide) ?_
    refine g_iload (pc := 120) C dX7_clearOf_120 4 rfl ?_
    refine g_isub (pc := 122) C dX7_clearOf_122 ?_
    refine g_i2l (pc := 123) C dX7_clearOf_123 ?_
    refine g_lmul (pc := 124) C dX7_clearOf_124 ?_
    refine g_iload (pc := 125) C dX7_clearOf_125 7 rfl ?_
    refine g_if_le (pc := 127) (tgt := 146) C dX7_clearOf_127 (by decide) ?_ ?_
    · refine g_lconst (pc := 146) (v := 0) C dX7_clearOf_146 rfl ?_
      refine g_ladd (pc := 147) C dX7_clearOf_147 ?_
      refine as_X7_parts (pc := 148) C dX7_clearOf_148 fun S10 => ?_
      refine g_iinc (pc := 149) (v := (x10 + (-1))) (lv2 := [(10, .int (x10 + (-1))), (0, .ref (ad 0)), (3, .int x3), (4, .int x4), (5, .int x5), (6, .int x6), (7, .long x7), (9, .int x9)]) C dX7_clearOf_149 7 rfl rfl (by decide) rfl ?_
      refine g_goto (pc := 152) (tgt := 100) C dX7_clearOf_152 (by decide) ?_
      refine g_sub [1, 2, 3, 4, 5, 6, 7, 0] rfl (hrec _ _)
    · refine g_aload_n (pc := 130) C dX7_clearOf_130 (i := 0) rfl 0 rfl ?_
      refine gt_X7_parts (pc := 131) C q893 dX7_clearOf_131 ?_
      refine g_iload (pc := 134) C dX7_clearOf_134 7 rfl ?_
      refine g_iconst (pc := 136) (v := 1) C dX7_clearOf_136 (by decide) ?_
      refine g_isub (pc := 137) C dX7_clearOf_137 ?_
      refine al_X7_parts (pc := 138) C dX7_clearOf_138 ?_
      refine g_iload (pc := 139) C dX7_clearOf_139 4 rfl ?_
      refine g_i2l (pc := 141) C dX7_clearOf_141 ?_
      refine g_lmul (pc := 142) C dX7_clearOf_142 ?_
      refine g_goto (pc := 143) (tgt := 147) C dX7_clearOf_143 (by decide) ?_
      refine g_ladd (pc := 147) C dX7_clearOf_147 ?_
      refine as_X7_parts (pc := 148) C dX7_clearOf_148 fun S11 => ?_
      refine g_iinc (pc := 149) (v := (x10 + (-1))) (lv2 := [(10, .int (x10 + (-1))), (0, .ref (ad 0)), (3, .int x3), (4, .int x4), (5, .int x5), (6, .int x6), (7, .long x7), (9, .int x9)]) C dX7_clearOf_149 7 rfl rfl (by decide) rfl ?_
      refine g_goto (pc := 152) (tgt := 100) C dX7_clearOf_152 (by decide) ?_
      refine g_sub [1, 2, 3, 4, 5, 6, 7, 0] rfl (hrec _ _)
set_option maxRecDepth 20000 in
theorem u_X7_clearOf_81 (C : Cx p s m args meth c cX7_clearOf 12 RX7 D (tyX cI cJ cZ) ad n (wM ad cI cJ cZ)) (hr : meth.sig.returnType = (some .long)) (x3 : Int32) (x4 : Int32) (x5 : Int32) (x6 : Int32) (k : Int64 → St → Option (Int64 × St)) (hk : ∀ (x7 : Int64) (S : St), GM p l e ({ frames := 3, cells := 0, slots := 0, locals := 72 } : Room) s m args below meth c D ad n (wM ad cI cJ cZ) 12 (QL D (wM ad cI cJ cZ) ad n args s below) (k x7 S) S 161 [(0, .ref (ad 0)), (3, .int x3), (4, .int x4), (7, .long x7)] []) (rec : Int64 → Int32 → St → Option (Int64 × St)) (hrec : ∀ (x7 : Int64) (x9 : Int32) (S : St), GM p l e ({ frames := 3, cells := 0, slots := 0, locals := 72 } : Room) s m args below meth c D ad n (wM ad cI cJ cZ) 12 (QL D (wM ad cI cJ cZ) ad n args s below) (rec x7 x9 S) S 81 [(0, .ref (ad 0)), (3, .int x3), (4, .int x4), (5, .int x5), (6, .int x6), (7, .long x7), (9, .int x9)] []) (x7 : Int64) (x9 : Int32) (S : St) : GM p l e ({ frames := 3, cells := 0, slots := 0, locals := 72 } : Room) s m args below meth c D ad n (wM ad cI cJ cZ) 12 (QL D (wM ad cI cJ cZ) ad n args s below) (b_X7_clearOf_81 x3 x4 x5 x6 k rec x7 x9 S) S 81 [(0, .ref (ad 0)), (3, .int x3), (4, .int x4), (5, .int x5), (6, .int x6), (7, .long x7), (9, .int x9)] [] := by
  unfold b_X7_clearOf_81
  refine g_iload (pc := 81) C dX7_clearOf_81 6 rfl ?_
  refine g_iload (pc := 83) C dX7_clearOf_83 3 rfl ?_
  refine g_icmp_ge (pc := 85) (tgt := 161) C dX7_clearOf_85 (by decide) ?_ ?_
  · refine g_sub [0, 1, 2, 5] rfl (hk _ _)
  · refine g_lload (pc := 88) C dX7_clearOf_88 5 rfl ?_
    refine g_ldc2 (pc := 90) C q1206 dX7_clearOf_90 ?_
    refine g_lmul (pc := 93) C dX7_clearOf_93 ?_
    refine g_nml fun y9 => ?_
    refine g_lstore (pc := 94) (i := 7) (j := 0) (lv2 := [(7, .long y9), (0, .ref (ad 0)), (3, .int x3), (4, .int x4), (5, .int x5), (6, .int x6), (9, .int x9)]) C dX7_clearOf_94 (by decide) rfl ?_
    refine g_bipush (pc := 96) (v := 13) C dX7_clearOf_96 (by decide) ?_
    refine g_istore (pc := 98) (i := 10) (j := 0) (lv2 := [(10, .int (13 : Int32)), (7, .long y9), (0, .ref (ad 0)), (3, .int x3), (4, .int x4), (5, .int x5), (6, .int x6), (9, .int x9)]) C dX7_clearOf_98 (by decide) rfl ?_
    refine g_sub [2, 3, 4, 5, 6, 1, 7, 0] (lv2 := [(0, .ref (ad 0)), (3, .int x3), (4, .int x4), (5, .int x5), (6, .int x6), (7, .long y9), (9, .int x9), (10, .int (13 : Int32))]) rfl ?_
    refine g_it1 (pc := 100) (u_X7_clearOf_100 C hr _ _ _ _ _ _ _ fun S12 => ?_) _ _ _
    refine g_iinc (pc := 155) (v := (x9 + 1)) (lv2 := [(9, .int (x9 + 1)), (0, .ref (ad 0)), (3, .int x3), (4, .int x4), (5, .int x5), (6, .int x6), (7, .long y9)]) C dX7_clearOf_155 6 rfl rfl (by decide) rfl ?_
    refine g_goto (pc := 158) (tgt := 81) C dX7_clearOf_158 (by decide) ?_
    refine g_sub [1, 2, 3, 4, 5, 6, 0] rfl (hrec _ _ _)
set_option maxRecDepth 20000 in
theorem u_X7_clearOf_167 (C : Cx p s m args meth c cX7_clearOf 12 RX7 D (tyX cI cJ cZ) ad n (wM ad cI cJ cZ)) (hr : meth.sig.returnType = (some .long)) (x4 : Int32) (x7 : Int64) (k : Int64 → St → Option (Int64 × St)) (hk : ∀ (x9 : Int64) (S : St), GM p l e ({ frames := 3, cells := 0, slots := 0, locals := 72 } : Room) s m args below meth c D ad n (wM ad cI cJ cZ) 12 (QL D (wM ad cI cJ cZ) ad n args s below) (k x9 S) S 192 [(4, .int x4), (7, .long x7), (9, .long x9)] []) (rec : Int64 → Int32 → St → Option (Int64 × St)) (hrec : ∀ (x9 : Int64) (x11 : Int32) (S : St), GM p l e ({ frames := 3, cells := 0, slots := 0, locals := 72 } : Room) s m args below meth c D ad n (wM ad cI cJ cZ) 12 (QL D (wM ad cI cJ cZ) ad n args s below) (rec x9 x11 S) S 167 [(0, .ref (ad 0)), (4, .int x4), (7, .long x7), (9, .long x9), (11, .int x11)] []) (x9 : Int64) (x11 : Int32) (S : St) : GM p l e ({ frames := 3, cells := 0, slots := 0, locals := 72 } : Room) s m args below meth c D ad n (wM ad cI cJ cZ) 12 (QL D (wM ad cI cJ cZ) ad n args s below) (b_X7_clearOf_167 x4 x7 k rec x9 x11 S) S 167 [(0, .ref (ad 0)), (4, .int x4), (7, .long x7), (9, .long x9), (11, .int x11)] [] := by
  unfold b_X7_clearOf_167
  refine g_iload (pc := 167) C dX7_clearOf_167 4 rfl ?_
  refine g_bipush (pc := 169) (v := 14) C dX7_clearOf_169 (by decide) ?_
  refine g_icmp_ge (pc := 171) (tgt := 192) C dX7_clearOf_171 (by decide) ?_ ?_
  · refine g_sub [1, 2, 3] rfl (hk _ _)
  · refine g_lload (pc := 174) C dX7_clearOf_174 3 rfl ?_
    refine g_aload_n (pc := 176) C dX7_clearOf_176 (i := 0) rfl 0 rfl ?_
    refine gt_X7_parts (pc := 177) C q893 dX7_clearOf_177 ?_
    refine g_iload (pc := 180) C dX7_clearOf_180 4 rfl ?_
    refine al_X7_parts (pc := 182) C dX7_clearOf_182 ?_
    refine g_ladd (pc := 183) C dX7_clearOf_183 ?_
    refine g_nml fun y14 => ?_
    refine g_lstore (pc := 184) (i := 9) (j := 0) (lv2 := [(9, .long y14), (0, .ref (ad 0)), (4, .int x4), (7, .long x7), (11, .int x11)]) C dX7_clearOf_184 (by decide) rfl ?_
    refine g_iinc (pc := 186) (v := (x11 + 1)) (lv2 := [(11, .int (x11 + 1)), (9, .long y14), (0, .ref (ad 0)), (4, .int x4), (7, .long x7)]) C dX7_clearOf_186 4 rfl rfl (by decide) rfl ?_
    refine g_goto (pc := 189) (tgt := 167) C dX7_clearOf_189 (by decide) ?_
    refine g_sub [2, 3, 4, 1, 0] rfl (hrec _ _ _)
set_option maxRecDepth 20000 in
theorem c_X7_clearOf {l : Launch} {D : va_G} {ad : Nat → Nat} {cI cJ cZ : ClassId} {n : Nat} (hD : ∀ sz S, va_D (Adr ad n sz) (wM ad cI cJ cZ S)) {x1 : Int32} {x2 : Int32} {x3 : Int32} {x4 : Int32} {S : St} {z : Int64 × St} (hf : m_X7_clearOf x1 x2 x3 x4 S = some z) : CtL l yX7_clearOf cX7_clearOf 12 (some .long) ({ frames := 3, cells := 0, slots := 0, locals := 72 } : Room) D (wM ad cI cJ cZ) (tyX cI cJ cZ) ad n [.ref (ad 0), .int x1, .int x2, .int x3, .int x4] S z := by
  refine CtL.of hf (by decide +kernel) (Nat.le_of_ble_eq_true rfl) hD (fun p e s m args below meth c C hr => ?_)
  refine g_sub [0, 1, 2, 3, 4] (lv2 := [(0, .ref (ad 0)), (1, .int x1), (2, .int x2), (3, .int x3), (4, .int x4)]) rfl ?_
  unfold m_X7_clearOf
  refine g_aload_n (pc := 0) C dX7_clearOf_0 (i := 0) rfl 0 rfl ?_
  refine g_iload_n (pc := 1) C dX7_clearOf_1 (i := 1) rfl 1 rfl ?_
  refine g_iload_n (pc := 2) C dX7_clearOf_2 (i := 2) rfl 2 rfl ?_
  refine g_callVi (pc := 3) (As := [.int _, .int _]) C q1039 mw_X7_lightOf (fun _ hz => c_X7_lightOf C.2.2.2.2.2.2.2.1 hz) ⟨Nat.le_of_ble_eq_true rfl, Nat.le_of_ble_eq_true rfl⟩ rfl rfl 0 rfl rfl rfl (Nat.le_of_ble_eq_true rfl) dX7_clearOf_3 fun r2 S1 => ?_
  refine g_callSi (pc := 6) (As := [.int _]) C q1055 mw_X7_ones (fun _ hz => c_X7_ones C.2.2.2.2.2.2.2.1 hz) ⟨Nat.le_of_ble_eq_true rfl, Nat.le_of_ble_eq_true rfl⟩ rfl rfl rfl (Nat.le_of_ble_eq_true rfl) dX7_clearOf_6 fun r4 S3 => ?_
  refine g_istore (pc := 9) (i := 5) (j := 0) (lv2 := [(5, .int r4), (0, .ref (ad 0)), (1, .int x1), (2, .int x2), (3, .int x3), (4, .int x4)]) C dX7_clearOf_9 (by decide) rfl ?_
  refine g_bipush (pc := 11) (v := 16) C dX7_clearOf_11 (by decide) ?_
  refine g_aload_n (pc := 13) C dX7_clearOf_13 (i := 0) rfl 1 rfl ?_
  refine gt_X7_cloudOf (pc := 14) C q882 dX7_clearOf_14 ?_
  refine g_iload_n (pc := 17) C dX7_clearOf_17 (i := 2) rfl 3 rfl ?_
  refine al_X7_cloudOf (pc := 18) C dX7_clearOf_18 ?_
  refine g_isub (pc := 19) C dX7_clearOf_19 ?_
  refine g_nmi fun y5 => ?_
  refine g_istore (pc := 20) (i := 6) (j := 0) (lv2 := [(6, .int y5), (5, .int r4), (0, .ref (ad 0)), (1, .int x1), (2, .int x2), (3, .int x3), (4, .int x4)]) C dX7_clearOf_20 (by decide) rfl ?_
  refine g_iload_n (pc := 22) C dX7_clearOf_22 (i := 3) rfl 5 rfl ?_
  refine g_iconst (pc := 23) (v := -1) C dX7_clearOf_23 (by decide) ?_
  refine g_icmp_ne (pc := 24) (tgt := 42) C dX7_clearOf_24 (by decide) ?_ ?_
  · refine g_lconst (pc := 42) (v := 1) C dX7_clearOf_42 rfl ?_
    refine g_lstore (pc := 43) (i := 7) (j := 0) (lv2 := [(7, .long (1 : Int64)), (6, .int y5), (5, .int r4), (0, .ref (ad 0)), (1, .int x1), (2, .int x2), (3, .int x3), (4, .int x4)]) C dX7_clearOf_43 (by decide) rfl ?_
    refine g_iconst (pc := 45) (v := 0) C dX7_clearOf_45 (by decide) ?_
    refine g_istore (pc := 46) (i := 9) (j := 0) (lv2 := [(9, .int (0 : Int32)), (7, .long (1 : Int64)), (6, .int y5), (5, .int r4), (0, .ref (ad 0)), (1, .int x1), (2, .int x2), (3, .int x3), (4, .int x4)]) C dX7_clearOf_46 (by decide) rfl ?_
    refine g_sub [4, 7, 8, 3, 2, 1, 0] (lv2 := [(0, .ref (ad 0)), (3, .int x3), (4, .int x4), (5, .int r4), (6, .int y5), (7, .long (1 : Int64)), (9, .int (0 : Int32))]) rfl ?_
    refine g_it1 (pc := 48) (u_X7_clearOf_48 C hr _ _ _ _ _ _ fun S8 => ?_) _ _ _
    refine g_iconst (pc := 78) (v := 0) C dX7_clearOf_78 (by decide) ?_
    refine g_istore (pc := 79) (i := 9) (j := 0) (lv2 := [(9, .int (0 : Int32)), (0, .ref (ad 0)), (3, .int x3), (4, .int x4), (5, .int r4), (6, .int y5), (7, .long (1 : Int64))]) C dX7_clearOf_79 (by decide) rfl ?_
    refine g_sub [1, 2, 3, 4, 5, 6, 0] (lv2 := [(0, .ref (ad 0)), (3, .int x3), (4, .int x4), (5, .int r4), (6, .int y5), (7, .long (1 : Int64)), (9, .int (0 : Int32))]) rfl ?_
    refine g_it2 (pc := 81) (u_X7_clearOf_81 C hr _ _ _ _ _ fun x7_S13 S13 => ?_) _ _ _ _
    refine g_lconst (pc := 161) (v := 0) C dX7_clearOf_161 rfl ?_
    refine g_lstore (pc := 162) (i := 9) (j := 0) (lv2 := [(9, .long (0 : Int64)), (0, .ref (ad 0)), (3, .int x3), (4, .int x4), (7, .long x7_S13)]) C dX7_clearOf_162 (by decide) rfl ?_
    refine g_iload_n (pc := 164) C dX7_clearOf_164 (i := 3) rfl 2 rfl ?_
    refine g_istore (pc := 165) (i := 11) (j := 0) (lv2 := [(11, .int x3), (9, .long (0 : Int64)), (0, .ref (ad 0)), (3, .int x3), (4, .int x4), (7, .long x7_S13)]) C dX7_clearOf_165 (by decide) rfl ?_
    refine g_sub [2, 4, 5, 1, 0] (lv2 := [(0, .ref (ad 0)), (4, .int x4), (7, .long x7_S13), (9, .long (0 : Int64)), (11, .int x3)]) rfl ?_
    refine g_it2 (pc := 167) (u_X7_clearOf_167 C hr _ _ _ fun x9_S15 S15 => ?_) _ _ _ _
    refine g_lload (pc := 192) C dX7_clearOf_192 2 rfl ?_
    refine g_lload (pc := 194) C dX7_clearOf_194 1 rfl ?_
    refine g_iload (pc := 196) C dX7_clearOf_196 0 rfl ?_
    refine g_callSl (pc := 198) (As := [.long _, .long _, .int _]) C q1207 mw_X7_lowest (fun _ hz => c_X7_lowest C.2.2.2.2.2.2.2.1 hz) ⟨Nat.le_of_ble_eq_true rfl, Nat.le_of_ble_eq_true rfl⟩ rfl rfl rfl (Nat.le_of_ble_eq_true rfl) dX7_clearOf_198 fun r17 S16 => ?_
    exact g_lret (pc := 201) C hr dX7_clearOf_201
  · refine g_iload (pc := 27) C dX7_clearOf_27 1 rfl ?_
    refine g_iload (pc := 29) C dX7_clearOf_29 0 rfl ?_
    refine g_imul (pc := 31) C dX7_clearOf_31 ?_
    refine g_i2l (pc := 32) C dX7_clearOf_32 ?_
    refine g_ldc2 (pc := 33) C q1206 dX7_clearOf_33 ?_
    refine g_iload (pc := 36) C dX7_clearOf_36 6 rfl ?_
    refine g_callSl (pc := 38) (As := [.long _, .long _, .int _]) C q1207 mw_X7_lowest (fun _ hz => c_X7_lowest C.2.2.2.2.2.2.2.1 hz) ⟨Nat.le_of_ble_eq_true rfl, Nat.le_of_ble_eq_true rfl⟩ rfl rfl rfl (Nat.le_of_ble_eq_true rfl) dX7_clearOf_38 fun r19 S18 => ?_
    exact g_lret (pc := 41) C hr dX7_clearOf_41
noncomputable def m_X7_clear (x1 : Int32) (x2 : Int32) (x3 : Int32) (x4 : Int32) (S : St) : Option (Int64 × St) :=
bnd (m_X7_isCell x1 S) fun r2 S1 =>
if r2 = 0 then (
bnd (m_X7_no (-2 : Int32) S1) fun r4 S3 =>
some (r4, S3))
else
bnd (m_X7_isFour x2 S1) fun r6 S5 =>
if r6 = 0 then (
bnd (m_X7_no (-2 : Int32) S5) fun r8 S7 =>
some (r8, S7))
else
bnd (m_X7_in x3 (-1 : Int32) (12 : Int32) S5) fun r10 S9 =>
if r10 = 0 then (
bnd (m_X7_no (-2 : Int32) S9) fun r12 S11 =>
some (r12, S11))
else
bnd (m_X7_in x4 (0 : Int32) (1 : Int32) S9) fun r14 S13 =>
if r14 = 0 then (
bnd (m_X7_no (-2 : Int32) S13) fun r16 S15 =>
some (r16, S15))
else
bnd (m_X7_clearOf x1 x2 x3 x4 S13) fun r18 S17 =>
some (r18, S17)
set_option maxRecDepth 20000 in
theorem c_X7_clear {l : Launch} {D : va_G} {ad : Nat → Nat} {cI cJ cZ : ClassId} {n : Nat} (hD : ∀ sz S, va_D (Adr ad n sz) (wM ad cI cJ cZ S)) {x1 : Int32} {x2 : Int32} {x3 : Int32} {x4 : Int32} {S : St} {z : Int64 × St} (hf : m_X7_clear x1 x2 x3 x4 S = some z) : CtL l yX7_clear cX7_clear 5 (some .long) ({ frames := 4, cells := 0, slots := 0, locals := 103 } : Room) D (wM ad cI cJ cZ) (tyX cI cJ cZ) ad n [.ref (ad 0), .int x1, .int x2, .int x3, .int x4] S z := by
  refine CtL.of hf (by decide +kernel) (Nat.le_of_ble_eq_true rfl) hD (fun p e s m args below meth c C hr => ?_)
  refine g_sub [0, 1, 2, 3, 4] (lv2 := [(0, .ref (ad 0)), (1, .int x1), (2, .int x2), (3, .int x3), (4, .int x4)]) rfl ?_
  unfold m_X7_clear
  refine g_aload_n (pc := 0) C dX7_clear_0 (i := 0) rfl 0 rfl ?_
  refine g_iload_n (pc := 1) C dX7_clear_1 (i := 1) rfl 1 rfl ?_
  refine g_callVi (pc := 2) (As := [.int _]) C q983 mw_X7_isCell (fun _ hz => c_X7_isCell C.2.2.2.2.2.2.2.1 hz) ⟨Nat.le_of_ble_eq_true rfl, Nat.le_of_ble_eq_true rfl⟩ rfl rfl 0 rfl rfl rfl (Nat.le_of_ble_eq_true rfl) dX7_clear_2 fun r2 S1 => ?_
  refine g_if_eq (pc := 5) (tgt := 47) C dX7_clear_5 (by decide) ?_ ?_
  · refine g_bipush (pc := 47) (v := -2) C dX7_clear_47 (by decide) ?_
    refine g_callSl (pc := 49) (As := [.int _]) C q1210 mw_X7_no (fun _ hz => c_X7_no C.2.2.2.2.2.2.2.1 hz) ⟨Nat.le_of_ble_eq_true rfl, Nat.le_of_ble_eq_true rfl⟩ rfl rfl rfl (Nat.le_of_ble_eq_true rfl) dX7_clear_49 fun r4 S3 => ?_
    exact g_lret (pc := 52) C hr dX7_clear_52
  · refine g_iload_n (pc := 8) C dX7_clear_8 (i := 2) rfl 2 rfl ?_
    refine g_callSi (pc := 9) (As := [.int _]) C q1002 mw_X7_isFour (fun _ hz => c_X7_isFour C.2.2.2.2.2.2.2.1 hz) ⟨Nat.le_of_ble_eq_true rfl, Nat.le_of_ble_eq_true rfl⟩ rfl rfl rfl (Nat.le_of_ble_eq_true rfl) dX7_clear_9 fun r6 S5 => ?_
    refine g_if_eq (pc := 12) (tgt := 47) C dX7_clear_12 (by decide) ?_ ?_
    · refine g_bipush (pc := 47) (v := -2) C dX7_clear_47 (by decide) ?_
      refine g_callSl (pc := 49) (As := [.int _]) C q1210 mw_X7_no (fun _ hz => c_X7_no C.2.2.2.2.2.2.2.1 hz) ⟨Nat.le_of_ble_eq_true rfl, Nat.le_of_ble_eq_true rfl⟩ rfl rfl rfl (Nat.le_of_ble_eq_true rfl) dX7_clear_49 fun r8 S7 => ?_
      exact g_lret (pc := 52) C hr dX7_clear_52
    · refine g_iload_n (pc := 15) C dX7_clear_15 (i := 3) rfl 3 rfl ?_
      refine g_iconst (pc := 16) (v := -1) C dX7_clear_16 (by decide) ?_
      refine g_bipush (pc := 17) (v := 12) C dX7_clear_17 (by decide) ?_
      refine g_callSi (pc := 19) (As := [.int _, .int _, .int _]) C q960 mw_X7_in (fun _ hz => c_X7_in C.2.2.2.2.2.2.2.1 hz) ⟨Nat.le_of_ble_eq_true rfl, Nat.le_of_ble_eq_true rfl⟩ rfl rfl rfl (Nat.le_of_ble_eq_true rfl) dX7_clear_19 fun r10 S9 => ?_
      refine g_if_eq (pc := 22) (tgt := 47) C dX7_clear_22 (by decide) ?_ ?_
      · refine g_bipush (pc := 47) (v := -2) C dX7_clear_47 (by decide) ?_
        refine g_callSl (pc := 49) (As := [.int _]) C q1210 mw_X7_no (fun _ hz => c_X7_no C.2.2.2.2.2.2.2.1 hz) ⟨Nat.le_of_ble_eq_true rfl, Nat.le_of_ble_eq_true rfl⟩ rfl rfl rfl (Nat.le_of_ble_eq_true rfl) dX7_clear_49 fun r12 S11 => ?_
        exact g_lret (pc := 52) C hr dX7_clear_52
      · refine g_iload (pc := 25) C dX7_clear_25 4 rfl ?_
        refine g_iconst (pc := 27) (v := 0) C dX7_clear_27 (by decide) ?_
        refine g_iconst (pc := 28) (v := 1) C dX7_clear_28 (by decide) ?_
        refine g_callSi (pc := 29) (As := [.int _, .int _, .int _]) C q960 mw_X7_in (fun _ hz => c_X7_in C.2.2.2.2.2.2.2.1 hz) ⟨Nat.le_of_ble_eq_true rfl, Nat.le_of_ble_eq_true rfl⟩ rfl rfl rfl (Nat.le_of_ble_eq_true rfl) dX7_clear_29 fun r14 S13 => ?_
        refine g_if_eq (pc := 32) (tgt := 47) C dX7_clear_32 (by decide) ?_ ?_
        · refine g_bipush (pc := 47) (v := -2) C dX7_clear_47 (by decide) ?_
          refine g_callSl (pc := 49) (As := [.int _]) C q1210 mw_X7_no (fun _ hz => c_X7_no C.2.2.2.2.2.2.2.1 hz) ⟨Nat.le_of_ble_eq_true rfl, Nat.le_of_ble_eq_true rfl⟩ rfl rfl rfl (Nat.le_of_ble_eq_true rfl) dX7_clear_49 fun r16 S15 => ?_
          exact g_lret (pc := 52) C hr dX7_clear_52
        · refine g_aload_n (pc := 35) C dX7_clear_35 (i := 0) rfl 0 rfl ?_
          refine g_iload_n (pc := 36) C dX7_clear_36 (i := 1) rfl 1 rfl ?_
          refine g_iload_n (pc := 37) C dX7_clear_37 (i := 2) rfl 2 rfl ?_
          refine g_iload_n (pc := 38) C dX7_clear_38 (i := 3) rfl 3 rfl ?_
          refine g_iload (pc := 39) C dX7_clear_39 4 rfl ?_
          refine g_callVl (pc := 41) (As := [.int _, .int _, .int _, .int _]) C q1202 mw_X7_clearOf (fun _ hz => c_X7_clearOf C.2.2.2.2.2.2.2.1 hz) ⟨Nat.le_of_ble_eq_true rfl, Nat.le_of_ble_eq_true rfl⟩ rfl rfl 0 rfl rfl rfl (Nat.le_of_ble_eq_true rfl) dX7_clear_41 fun r18 S17 => ?_
          refine g_goto (pc := 44) (tgt := 52) C dX7_clear_44 (by decide) ?_
          exact g_lret (pc := 52) C hr dX7_clear_52
noncomputable def b_X7_sheet_59 (x1 : Int32) (x3 : Int32) (k : St → Option (Int32 × St)) (rec : Int32 → St → Option (Int32 × St)) (x4 : Int32) (S : St) : Option (Int32 × St) :=
if x4 < (48 : Int32) then (
chk (((48 : Int32) * x1) + x4) 192 <|
nm (sI S 20 (ix (((48 : Int32) * x1) + x4)) (0 : Int32)) fun S8 =>
rec (x4 + 1) S8)
else
k S
noncomputable def m_X7_sheet (x1 : Int32) (x2 : Int32) (x3 : Int32) (S : St) : Option (Int32 × St) :=
bnd (m_X7_isSheet x1 S) fun r2 S1 =>
if r2 = 0 then (
some ((-2 : Int32), S1))
else
bnd (m_X7_in x2 (0 : Int32) (2 : Int32) S1) fun r4 S3 =>
if r4 = 0 then (
some ((-2 : Int32), S3))
else
if (48 : Int32) < x3 then (
some ((-2 : Int32), S3))
else
if x3 < 0 then (
bnd (m_X7_meets (5 : Int32) S3) fun r11 S10 =>
some (r11, S10))
else
chk x1 4 <|
nm (sI S3 17 (ix x1) (1 : Int32)) fun S5 =>
chk x1 4 <|
nm (sI S5 18 (ix x1) x2) fun S6 =>
chk x1 4 <|
nm (sI S6 19 (ix x1) x3) fun S7 =>
it1 (b_X7_sheet_59 x1 x3 (fun S9 =>
some (x3, S9))) 5000 (0 : Int32) S7
set_option maxRecDepth 20000 in
theorem u_X7_sheet_59 (C : Cx p s m args meth c cX7_sheet 5 RX7 D (tyX cI cJ cZ) ad n (wM ad cI cJ cZ)) (hr : meth.sig.returnType = (some .int)) (x1 : Int32) (x3 : Int32) (k : St → Option (Int32 × St)) (hk : ∀ (S : St), GM p l e ({ frames := 2, cells := 0, slots := 0, locals := 42 } : Room) s m args below meth c D ad n (wM ad cI cJ cZ) 5 (QI D (wM ad cI cJ cZ) ad n args s below) (k S) S 85 [(3, .int x3)] []) (rec : Int32 → St → Option (Int32 × St)) (hrec : ∀ (x4 : Int32) (S : St), GM p l e ({ frames := 2, cells := 0, slots := 0, locals := 42 } : Room) s m args below meth c D ad n (wM ad cI cJ cZ) 5 (QI D (wM ad cI cJ cZ) ad n args s below) (rec x4 S) S 59 [(0, .ref (ad 0)), (1, .int x1), (3, .int x3), (4, .int x4)] []) (x4 : Int32) (S : St) : GM p l e ({ frames := 2, cells := 0, slots := 0, locals := 42 } : Room) s m args below meth c D ad n (wM ad cI cJ cZ) 5 (QI D (wM ad cI cJ cZ) ad n args s below) (b_X7_sheet_59 x1 x3 k rec x4 S) S 59 [(0, .ref (ad 0)), (1, .int x1), (3, .int x3), (4, .int x4)] [] := by
  unfold b_X7_sheet_59
  refine g_iload (pc := 59) C dX7_sheet_59 3 rfl ?_
  refine g_bipush (pc := 61) (v := 48) C dX7_sheet_61 (by decide) ?_
  refine g_icmp_ge (pc := 63) (tgt := 85) C dX7_sheet_63 (by decide) ?_ ?_
  · refine g_sub [2] rfl (hk _)
  · refine g_aload_n (pc := 66) C dX7_sheet_66 (i := 0) rfl 0 rfl ?_
    refine gt_X7_items (pc := 67) C q897 dX7_sheet_67 ?_
    refine g_bipush (pc := 70) (v := 48) C dX7_sheet_70 (by decide) ?_
    refine g_iload_n (pc := 72) C dX7_sheet_72 (i := 1) rfl 1 rfl ?_
    refine g_imul (pc := 73) C dX7_sheet_73 ?_
    refine g_iload (pc := 74) C dX7_sheet_74 3 rfl ?_
    refine g_iadd (pc := 76) C dX7_sheet_76 ?_
    refine g_iconst (pc := 77) (v := 0) C dX7_sheet_77 (by decide) ?_
    refine as_X7_items (pc := 78) C dX7_sheet_78 fun S8 => ?_
    refine g_iinc (pc := 79) (v := (x4 + 1)) (lv2 := [(4, .int (x4 + 1)), (0, .ref (ad 0)), (1, .int x1), (3, .int x3)]) C dX7_sheet_79 3 rfl rfl (by decide) rfl ?_
    refine g_goto (pc := 82) (tgt := 59) C dX7_sheet_82 (by decide) ?_
    refine g_sub [1, 2, 3, 0] rfl (hrec _ _)
set_option maxRecDepth 20000 in
theorem c_X7_sheet {l : Launch} {D : va_G} {ad : Nat → Nat} {cI cJ cZ : ClassId} {n : Nat} (hD : ∀ sz S, va_D (Adr ad n sz) (wM ad cI cJ cZ S)) {x1 : Int32} {x2 : Int32} {x3 : Int32} {S : St} {z : Int32 × St} (hf : m_X7_sheet x1 x2 x3 S = some z) : CtI l yX7_sheet cX7_sheet 5 (some .int) ({ frames := 2, cells := 0, slots := 0, locals := 42 } : Room) D (wM ad cI cJ cZ) (tyX cI cJ cZ) ad n [.ref (ad 0), .int x1, .int x2, .int x3] S z := by
  refine CtI.of hf (by decide +kernel) (Nat.le_of_ble_eq_true rfl) hD (fun p e s m args below meth c C hr => ?_)
  refine g_sub [0, 1, 2, 3] (lv2 := [(0, .ref (ad 0)), (1, .int x1), (2, .int x2), (3, .int x3)]) rfl ?_
  unfold m_X7_sheet
  refine g_iload_n (pc := 0) C dX7_sheet_0 (i := 1) rfl 1 rfl ?_
  refine g_callSi (pc := 1) (As := [.int _]) C q1009 mw_X7_isSheet (fun _ hz => c_X7_isSheet C.2.2.2.2.2.2.2.1 hz) ⟨Nat.le_of_ble_eq_true rfl, Nat.le_of_ble_eq_true rfl⟩ rfl rfl rfl (Nat.le_of_ble_eq_true rfl) dX7_sheet_1 fun r2 S1 => ?_
  refine g_if_eq (pc := 4) (tgt := 22) C dX7_sheet_4 (by decide) ?_ ?_
  · refine g_bipush (pc := 22) (v := -2) C dX7_sheet_22 (by decide) ?_
    exact g_iret (pc := 24) C hr dX7_sheet_24
  · refine g_iload_n (pc := 7) C dX7_sheet_7 (i := 2) rfl 2 rfl ?_
    refine g_iconst (pc := 8) (v := 0) C dX7_sheet_8 (by decide) ?_
    refine g_iconst (pc := 9) (v := 2) C dX7_sheet_9 (by decide) ?_
    refine g_callSi (pc := 10) (As := [.int _, .int _, .int _]) C q960 mw_X7_in (fun _ hz => c_X7_in C.2.2.2.2.2.2.2.1 hz) ⟨Nat.le_of_ble_eq_true rfl, Nat.le_of_ble_eq_true rfl⟩ rfl rfl rfl (Nat.le_of_ble_eq_true rfl) dX7_sheet_10 fun r4 S3 => ?_
    refine g_if_eq (pc := 13) (tgt := 22) C dX7_sheet_13 (by decide) ?_ ?_
    · refine g_bipush (pc := 22) (v := -2) C dX7_sheet_22 (by decide) ?_
      exact g_iret (pc := 24) C hr dX7_sheet_24
    · refine g_iload_n (pc := 16) C dX7_sheet_16 (i := 3) rfl 3 rfl ?_
      refine g_bipush (pc := 17) (v := 48) C dX7_sheet_17 (by decide) ?_
      refine g_icmp_le (pc := 19) (tgt := 25) C dX7_sheet_19 (by decide) ?_ ?_
      · refine g_iload_n (pc := 25) C dX7_sheet_25 (i := 3) rfl 3 rfl ?_
        refine g_if_ge (pc := 26) (tgt := 35) C dX7_sheet_26 (by decide) ?_ ?_
        · refine g_aload_n (pc := 35) C dX7_sheet_35 (i := 0) rfl 0 rfl ?_
          refine gt_X7_isThere (pc := 36) C q894 dX7_sheet_36 ?_
          refine g_iload_n (pc := 39) C dX7_sheet_39 (i := 1) rfl 1 rfl ?_
          refine g_iconst (pc := 40) (v := 1) C dX7_sheet_40 (by decide) ?_
          refine as_X7_isThere (pc := 41) C (Or.inr rfl) dX7_sheet_41 fun S5 => ?_
          refine g_aload_n (pc := 42) C dX7_sheet_42 (i := 0) rfl 0 rfl ?_
          refine gt_X7_forms (pc := 43) C q895 dX7_sheet_43 ?_
          refine g_iload_n (pc := 46) C dX7_sheet_46 (i := 1) rfl 1 rfl ?_
          refine g_iload_n (pc := 47) C dX7_sheet_47 (i := 2) rfl 2 rfl ?_
          refine as_X7_forms (pc := 48) C dX7_sheet_48 fun S6 => ?_
          refine g_aload_n (pc := 49) C dX7_sheet_49 (i := 0) rfl 0 rfl ?_
          refine gt_X7_sizes (pc := 50) C q896 dX7_sheet_50 ?_
          refine g_iload_n (pc := 53) C dX7_sheet_53 (i := 1) rfl 1 rfl ?_
          refine g_iload_n (pc := 54) C dX7_sheet_54 (i := 3) rfl 3 rfl ?_
          refine as_X7_sizes (pc := 55) C dX7_sheet_55 fun S7 => ?_
          refine g_iconst (pc := 56) (v := 0) C dX7_sheet_56 (by decide) ?_
          refine g_istore (pc := 57) (i := 4) (j := 0) (lv2 := [(4, .int (0 : Int32)), (0, .ref (ad 0)), (1, .int x1), (2, .int x2), (3, .int x3)]) C dX7_sheet_57 (by decide) rfl ?_
          refine g_sub [1, 2, 4, 0] (lv2 := [(0, .ref (ad 0)), (1, .int x1), (3, .int x3), (4, .int (0 : Int32))]) rfl ?_
          refine g_it1 (pc := 59) (u_X7_sheet_59 C hr _ _ _ fun S9 => ?_) _ _ _
          refine g_iload_n (pc := 85) C dX7_sheet_85 (i := 3) rfl 0 rfl ?_
          exact g_iret (pc := 86) C hr dX7_sheet_86
        · refine g_aload_n (pc := 29) C dX7_sheet_29 (i := 0) rfl 0 rfl ?_
          refine g_iconst (pc := 30) (v := 5) C dX7_sheet_30 (by decide) ?_
          refine g_callVi (pc := 31) (As := [.int _]) C q1012 mw_X7_meets (fun _ hz => c_X7_meets C.2.2.2.2.2.2.2.1 hz) ⟨Nat.le_of_ble_eq_true rfl, Nat.le_of_ble_eq_true rfl⟩ rfl rfl 0 rfl rfl rfl (Nat.le_of_ble_eq_true rfl) dX7_sheet_31 fun r11 S10 => ?_
          exact g_iret (pc := 34) C hr dX7_sheet_34
      · refine g_bipush (pc := 22) (v := -2) C dX7_sheet_22 (by decide) ?_
        exact g_iret (pc := 24) C hr dX7_sheet_24
noncomputable def m_X7_lose (x1 : Int32) (S : St) : Option (Int32 × St) :=
bnd (m_X7_isSheet x1 S) fun r2 S1 =>
if r2 = 0 then (
some ((-2 : Int32), S1))
else
chk x1 4 <|
if (gI S1 17 (ix x1)) = 0 then (
bnd (m_X7_meets (1 : Int32) S1) fun r5 S4 =>
some (r5, S4))
else
chk x1 4 <|
nm (sI S1 17 (ix x1) (0 : Int32)) fun S3 =>
chk x1 4 <|
some ((gI S3 19 (ix x1)), S3)
set_option maxRecDepth 20000 in
theorem c_X7_lose {l : Launch} {D : va_G} {ad : Nat → Nat} {cI cJ cZ : ClassId} {n : Nat} (hD : ∀ sz S, va_D (Adr ad n sz) (wM ad cI cJ cZ S)) {x1 : Int32} {S : St} {z : Int32 × St} (hf : m_X7_lose x1 S = some z) : CtI l yX7_lose cX7_lose 2 (some .int) ({ frames := 2, cells := 0, slots := 0, locals := 42 } : Room) D (wM ad cI cJ cZ) (tyX cI cJ cZ) ad n [.ref (ad 0), .int x1] S z := by
  refine CtI.of hf (by decide +kernel) (Nat.le_of_ble_eq_true rfl) hD (fun p e s m args below meth c C hr => ?_)
  refine g_sub [0, 1] (lv2 := [(0, .ref (ad 0)), (1, .int x1)]) rfl ?_
  unfold m_X7_lose
  refine g_iload_n (pc := 0) C dX7_lose_0 (i := 1) rfl 1 rfl ?_
  refine g_callSi (pc := 1) (As := [.int _]) C q1009 mw_X7_isSheet (fun _ hz => c_X7_isSheet C.2.2.2.2.2.2.2.1 hz) ⟨Nat.le_of_ble_eq_true rfl, Nat.le_of_ble_eq_true rfl⟩ rfl rfl rfl (Nat.le_of_ble_eq_true rfl) dX7_lose_1 fun r2 S1 => ?_
  refine g_if_ne (pc := 4) (tgt := 10) C dX7_lose_4 (by decide) ?_ ?_
  · refine g_aload_n (pc := 10) C dX7_lose_10 (i := 0) rfl 0 rfl ?_
    refine gt_X7_isThere (pc := 11) C q894 dX7_lose_11 ?_
    refine g_iload_n (pc := 14) C dX7_lose_14 (i := 1) rfl 1 rfl ?_
    refine al_X7_isThere (pc := 15) C dX7_lose_15 ?_
    refine g_if_ne (pc := 16) (tgt := 25) C dX7_lose_16 (by decide) ?_ ?_
    · refine g_aload_n (pc := 25) C dX7_lose_25 (i := 0) rfl 0 rfl ?_
      refine gt_X7_isThere (pc := 26) C q894 dX7_lose_26 ?_
      refine g_iload_n (pc := 29) C dX7_lose_29 (i := 1) rfl 1 rfl ?_
      refine g_iconst (pc := 30) (v := 0) C dX7_lose_30 (by decide) ?_
      refine as_X7_isThere (pc := 31) C (Or.inl rfl) dX7_lose_31 fun S3 => ?_
      refine g_aload_n (pc := 32) C dX7_lose_32 (i := 0) rfl 0 rfl ?_
      refine gt_X7_sizes (pc := 33) C q896 dX7_lose_33 ?_
      refine g_iload_n (pc := 36) C dX7_lose_36 (i := 1) rfl 1 rfl ?_
      refine al_X7_sizes (pc := 37) C dX7_lose_37 ?_
      exact g_iret (pc := 38) C hr dX7_lose_38
    · refine g_aload_n (pc := 19) C dX7_lose_19 (i := 0) rfl 0 rfl ?_
      refine g_iconst (pc := 20) (v := 1) C dX7_lose_20 (by decide) ?_
      refine g_callVi (pc := 21) (As := [.int _]) C q1012 mw_X7_meets (fun _ hz => c_X7_meets C.2.2.2.2.2.2.2.1 hz) ⟨Nat.le_of_ble_eq_true rfl, Nat.le_of_ble_eq_true rfl⟩ rfl rfl 0 rfl rfl rfl (Nat.le_of_ble_eq_true rfl) dX7_lose_21 fun r5 S4 => ?_
      exact g_iret (pc := 24) C hr dX7_lose_24
  · refine g_bipush (pc := 7) (v := -2) C dX7_lose_7 (by decide) ?_
    exact g_iret (pc := 9) C hr dX7_lose_9
noncomputable def m_X7_lacks (x1 : Int32) (x2 : Int32) (x3 : Int32) (S : St) : Option (Int32 × St) :=
chk x1 4 <|
if (gI S 17 (ix x1)) = 0 then (
some ((1 : Int32), S))
else
chk x1 4 <|
if (gI S 18 (ix x1)) = x2 then (
chk x1 4 <|
bnd (m_X7_in x3 (0 : Int32) ((gI S 19 (ix x1)) - (1 : Int32)) S) fun r2 S1 =>
if r2 = 0 then (
some ((2 : Int32), S1))
else
some ((0 : Int32), S1))
else
some ((3 : Int32), S)
set_option maxRecDepth 20000 in
theorem c_X7_lacks {l : Launch} {D : va_G} {ad : Nat → Nat} {cI cJ cZ : ClassId} {n : Nat} (hD : ∀ sz S, va_D (Adr ad n sz) (wM ad cI cJ cZ S)) {x1 : Int32} {x2 : Int32} {x3 : Int32} {S : St} {z : Int32 × St} (hf : m_X7_lacks x1 x2 x3 S = some z) : CtI l yX7_lacks cX7_lacks 4 (some .int) ({ frames := 1, cells := 0, slots := 0, locals := 22 } : Room) D (wM ad cI cJ cZ) (tyX cI cJ cZ) ad n [.ref (ad 0), .int x1, .int x2, .int x3] S z := by
  refine CtI.of hf (by decide +kernel) (Nat.le_of_ble_eq_true rfl) hD (fun p e s m args below meth c C hr => ?_)
  refine g_sub [0, 1, 2, 3] (lv2 := [(0, .ref (ad 0)), (1, .int x1), (2, .int x2), (3, .int x3)]) rfl ?_
  unfold m_X7_lacks
  refine g_aload_n (pc := 0) C dX7_lacks_0 (i := 0) rfl 0 rfl ?_
  refine gt_X7_isThere (pc := 1) C q894 dX7_lacks_1 ?_
  refine g_iload_n (pc := 4) C dX7_lacks_4 (i := 1) rfl 1 rfl ?_
  refine al_X7_isThere (pc := 5) C dX7_lacks_5 ?_
  refine g_if_ne (pc := 6) (tgt := 13) C dX7_lacks_6 (by decide) ?_ ?_
  · refine g_aload_n (pc := 13) C dX7_lacks_13 (i := 0) rfl 0 rfl ?_
    refine gt_X7_forms (pc := 14) C q895 dX7_lacks_14 ?_
    refine g_iload_n (pc := 17) C dX7_lacks_17 (i := 1) rfl 1 rfl ?_
    refine al_X7_forms (pc := 18) C dX7_lacks_18 ?_
    refine g_iload_n (pc := 19) C dX7_lacks_19 (i := 2) rfl 2 rfl ?_
    refine g_icmp_eq (pc := 20) (tgt := 27) C dX7_lacks_20 (by decide) ?_ ?_
    · refine g_iload_n (pc := 27) C dX7_lacks_27 (i := 3) rfl 3 rfl ?_
      refine g_iconst (pc := 28) (v := 0) C dX7_lacks_28 (by decide) ?_
      refine g_aload_n (pc := 29) C dX7_lacks_29 (i := 0) rfl 0 rfl ?_
      refine gt_X7_sizes (pc := 30) C q896 dX7_lacks_30 ?_
      refine g_iload_n (pc := 33) C dX7_lacks_33 (i := 1) rfl 1 rfl ?_
      refine al_X7_sizes (pc := 34) C dX7_lacks_34 ?_
      refine g_iconst (pc := 35) (v := 1) C dX7_lacks_35 (by decide) ?_
      refine g_isub (pc := 36) C dX7_lacks_36 ?_
      refine g_callSi (pc := 37) (As := [.int _, .int _, .int _]) C q960 mw_X7_in (fun _ hz => c_X7_in C.2.2.2.2.2.2.2.1 hz) ⟨Nat.le_of_ble_eq_true rfl, Nat.le_of_ble_eq_true rfl⟩ rfl rfl rfl (Nat.le_of_ble_eq_true rfl) dX7_lacks_37 fun r2 S1 => ?_
      refine g_if_eq (pc := 40) (tgt := 47) C dX7_lacks_40 (by decide) ?_ ?_
      · refine g_iconst (pc := 47) (v := 2) C dX7_lacks_47 (by decide) ?_
        exact g_iret (pc := 48) C hr dX7_lacks_48
      · refine g_iconst (pc := 43) (v := 0) C dX7_lacks_43 (by decide) ?_
        refine g_goto (pc := 44) (tgt := 48) C dX7_lacks_44 (by decide) ?_
        exact g_iret (pc := 48) C hr dX7_lacks_48
    · refine g_iconst (pc := 23) (v := 3) C dX7_lacks_23 (by decide) ?_
      refine g_goto (pc := 24) (tgt := 48) C dX7_lacks_24 (by decide) ?_
      exact g_iret (pc := 48) C hr dX7_lacks_48
  · refine g_iconst (pc := 9) (v := 1) C dX7_lacks_9 (by decide) ?_
    refine g_goto (pc := 10) (tgt := 48) C dX7_lacks_10 (by decide) ?_
    exact g_iret (pc := 48) C hr dX7_lacks_48
noncomputable def m_X7_keep (x1 : Int32) (x2 : Int32) (x3 : Int32) (S : St) : Option (St) :=
chk x1 4 <|
if (gI S 18 (ix x1)) = 0 then (
chk (((48 : Int32) * x1) + x2) 192 <|
nm (sI S 20 (ix (((48 : Int32) * x1) + x2)) (x3).toInt8.toInt32) fun S3 =>
some S3)
else
chk x1 4 <|
if (gI S 18 (ix x1)) = (1 : Int32) then (
chk (((48 : Int32) * x1) + x2) 192 <|
nm (sI S 20 (ix (((48 : Int32) * x1) + x2)) (x3).toInt16.toInt32) fun S2 =>
some S2)
else
chk (((48 : Int32) * x1) + x2) 192 <|
nm (sI S 20 (ix (((48 : Int32) * x1) + x2)) x3) fun S1 =>
some S1
set_option maxRecDepth 20000 in
theorem c_X7_keep {l : Launch} {D : va_G} {ad : Nat → Nat} {cI cJ cZ : ClassId} {n : Nat} (hD : ∀ sz S, va_D (Adr ad n sz) (wM ad cI cJ cZ S)) {x1 : Int32} {x2 : Int32} {x3 : Int32} {S : St} {z : St} (hf : m_X7_keep x1 x2 x3 S = some z) : CtV l yX7_keep cX7_keep 4 none ({ frames := 0, cells := 0, slots := 0, locals := 0 } : Room) D (wM ad cI cJ cZ) (tyX cI cJ cZ) ad n [.ref (ad 0), .int x1, .int x2, .int x3] S z := by
  refine CtV.of hf (by decide +kernel) (Nat.le_of_ble_eq_true rfl) hD (fun p e s m args below meth c C hr => ?_)
  refine g_sub [0, 1, 2, 3] (lv2 := [(0, .ref (ad 0)), (1, .int x1), (2, .int x2), (3, .int x3)]) rfl ?_
  unfold m_X7_keep
  refine g_aload_n (pc := 0) C dX7_keep_0 (i := 0) rfl 0 rfl ?_
  refine gt_X7_items (pc := 1) C q897 dX7_keep_1 ?_
  refine g_bipush (pc := 4) (v := 48) C dX7_keep_4 (by decide) ?_
  refine g_iload_n (pc := 6) C dX7_keep_6 (i := 1) rfl 1 rfl ?_
  refine g_imul (pc := 7) C dX7_keep_7 ?_
  refine g_iload_n (pc := 8) C dX7_keep_8 (i := 2) rfl 2 rfl ?_
  refine g_iadd (pc := 9) C dX7_keep_9 ?_
  refine g_aload_n (pc := 10) C dX7_keep_10 (i := 0) rfl 0 rfl ?_
  refine gt_X7_forms (pc := 11) C q895 dX7_keep_11 ?_
  refine g_iload_n (pc := 14) C dX7_keep_14 (i := 1) rfl 1 rfl ?_
  refine al_X7_forms (pc := 15) C dX7_keep_15 ?_
  refine g_if_ne (pc := 16) (tgt := 24) C dX7_keep_16 (by decide) ?_ ?_
  · refine g_aload_n (pc := 24) C dX7_keep_24 (i := 0) rfl 0 rfl ?_
    refine gt_X7_forms (pc := 25) C q895 dX7_keep_25 ?_
    refine g_iload_n (pc := 28) C dX7_keep_28 (i := 1) rfl 1 rfl ?_
    refine al_X7_forms (pc := 29) C dX7_keep_29 ?_
    refine g_iconst (pc := 30) (v := 1) C dX7_keep_30 (by decide) ?_
    refine g_icmp_ne (pc := 31) (tgt := 39) C dX7_keep_31 (by decide) ?_ ?_
    · refine g_iload_n (pc := 39) C dX7_keep_39 (i := 3) rfl 3 rfl ?_
      refine as_X7_items (pc := 40) C dX7_keep_40 fun S1 => ?_
      exact g_vret (pc := 41) C hr dX7_keep_41
    · refine g_iload_n (pc := 34) C dX7_keep_34 (i := 3) rfl 3 rfl ?_
      refine g_i2s (pc := 35) C dX7_keep_35 ?_
      refine g_goto (pc := 36) (tgt := 40) C dX7_keep_36 (by decide) ?_
      refine as_X7_items (pc := 40) C dX7_keep_40 fun S2 => ?_
      exact g_vret (pc := 41) C hr dX7_keep_41
  · refine g_iload_n (pc := 19) C dX7_keep_19 (i := 3) rfl 3 rfl ?_
    refine g_i2b (pc := 20) C dX7_keep_20 ?_
    refine g_goto (pc := 21) (tgt := 40) C dX7_keep_21 (by decide) ?_
    refine as_X7_items (pc := 40) C dX7_keep_40 fun S3 => ?_
    exact g_vret (pc := 41) C hr dX7_keep_41
noncomputable def m_X7_put (x1 : Int32) (x2 : Int32) (x3 : Int32) (x4 : Int32) (S : St) : Option (Int32 × St) :=
bnd (m_X7_isSheet x1 S) fun r2 S1 =>
if r2 = 0 then (
some ((-2 : Int32), S1))
else
bnd (m_X7_in x2 (0 : Int32) (2 : Int32) S1) fun r4 S3 =>
if r4 = 0 then (
some ((-2 : Int32), S3))
else
bnd (m_X7_lacks x1 x2 x3 S3) fun r6 S5 =>
if 0 < r6 then (
bnd (m_X7_meets r6 S5) fun r10 S9 =>
some (r10, S9))
else
bndV (m_X7_keep x1 x3 x4 S5) fun S7 =>
some ((1 : Int32), S7)
set_option maxRecDepth 20000 in
theorem c_X7_put {l : Launch} {D : va_G} {ad : Nat → Nat} {cI cJ cZ : ClassId} {n : Nat} (hD : ∀ sz S, va_D (Adr ad n sz) (wM ad cI cJ cZ S)) {x1 : Int32} {x2 : Int32} {x3 : Int32} {x4 : Int32} {S : St} {z : Int32 × St} (hf : m_X7_put x1 x2 x3 x4 S = some z) : CtI l yX7_put cX7_put 6 (some .int) ({ frames := 2, cells := 0, slots := 0, locals := 45 } : Room) D (wM ad cI cJ cZ) (tyX cI cJ cZ) ad n [.ref (ad 0), .int x1, .int x2, .int x3, .int x4] S z := by
  refine CtI.of hf (by decide +kernel) (Nat.le_of_ble_eq_true rfl) hD (fun p e s m args below meth c C hr => ?_)
  refine g_sub [0, 1, 2, 3, 4] (lv2 := [(0, .ref (ad 0)), (1, .int x1), (2, .int x2), (3, .int x3), (4, .int x4)]) rfl ?_
  unfold m_X7_put
  refine g_iload_n (pc := 0) C dX7_put_0 (i := 1) rfl 1 rfl ?_
  refine g_callSi (pc := 1) (As := [.int _]) C q1009 mw_X7_isSheet (fun _ hz => c_X7_isSheet C.2.2.2.2.2.2.2.1 hz) ⟨Nat.le_of_ble_eq_true rfl, Nat.le_of_ble_eq_true rfl⟩ rfl rfl rfl (Nat.le_of_ble_eq_true rfl) dX7_put_1 fun r2 S1 => ?_
  refine g_if_eq (pc := 4) (tgt := 16) C dX7_put_4 (by decide) ?_ ?_
  · refine g_bipush (pc := 16) (v := -2) C dX7_put_16 (by decide) ?_
    exact g_iret (pc := 18) C hr dX7_put_18
  · refine g_iload_n (pc := 7) C dX7_put_7 (i := 2) rfl 2 rfl ?_
    refine g_iconst (pc := 8) (v := 0) C dX7_put_8 (by decide) ?_
    refine g_iconst (pc := 9) (v := 2) C dX7_put_9 (by decide) ?_
    refine g_callSi (pc := 10) (As := [.int _, .int _, .int _]) C q960 mw_X7_in (fun _ hz => c_X7_in C.2.2.2.2.2.2.2.1 hz) ⟨Nat.le_of_ble_eq_true rfl, Nat.le_of_ble_eq_true rfl⟩ rfl rfl rfl (Nat.le_of_ble_eq_true rfl) dX7_put_10 fun r4 S3 => ?_
    refine g_if_ne (pc := 13) (tgt := 19) C dX7_put_13 (by decide) ?_ ?_
    · refine g_aload_n (pc := 19) C dX7_put_19 (i := 0) rfl 0 rfl ?_
      refine g_iload_n (pc := 20) C dX7_put_20 (i := 1) rfl 1 rfl ?_
      refine g_iload_n (pc := 21) C dX7_put_21 (i := 2) rfl 2 rfl ?_
      refine g_iload_n (pc := 22) C dX7_put_22 (i := 3) rfl 3 rfl ?_
      refine g_callVi (pc := 23) (As := [.int _, .int _, .int _]) C q1226 mw_X7_lacks (fun _ hz => c_X7_lacks C.2.2.2.2.2.2.2.1 hz) ⟨Nat.le_of_ble_eq_true rfl, Nat.le_of_ble_eq_true rfl⟩ rfl rfl 0 rfl rfl rfl (Nat.le_of_ble_eq_true rfl) dX7_put_23 fun r6 S5 => ?_
      refine g_istore (pc := 26) (i := 5) (j := 0) (lv2 := [(5, .int r6), (0, .ref (ad 0)), (1, .int x1), (2, .int x2), (3, .int x3), (4, .int x4)]) C dX7_put_26 (by decide) rfl ?_
      refine g_iload (pc := 28) C dX7_put_28 0 rfl ?_
      refine g_if_le (pc := 30) (tgt := 40) C dX7_put_30 (by decide) ?_ ?_
      · refine g_aload_n (pc := 40) C dX7_put_40 (i := 0) rfl 1 rfl ?_
        refine g_iload_n (pc := 41) C dX7_put_41 (i := 1) rfl 2 rfl ?_
        refine g_iload_n (pc := 42) C dX7_put_42 (i := 3) rfl 4 rfl ?_
        refine g_iload (pc := 43) C dX7_put_43 5 rfl ?_
        refine g_callVv (pc := 45) (As := [.int _, .int _, .int _]) C q1230 mw_X7_keep (fun _ hz => c_X7_keep C.2.2.2.2.2.2.2.1 hz) ⟨Nat.le_of_ble_eq_true rfl, Nat.le_of_ble_eq_true rfl⟩ rfl rfl 0 rfl rfl rfl (Nat.le_of_ble_eq_true rfl) dX7_put_45 fun S7 => ?_
        refine g_iconst (pc := 48) (v := 1) C dX7_put_48 (by decide) ?_
        exact g_iret (pc := 49) C hr dX7_put_49
      · refine g_aload_n (pc := 33) C dX7_put_33 (i := 0) rfl 1 rfl ?_
        refine g_iload (pc := 34) C dX7_put_34 0 rfl ?_
        refine g_callVi (pc := 36) (As := [.int _]) C q1012 mw_X7_meets (fun _ hz => c_X7_meets C.2.2.2.2.2.2.2.1 hz) ⟨Nat.le_of_ble_eq_true rfl, Nat.le_of_ble_eq_true rfl⟩ rfl rfl 0 rfl rfl rfl (Nat.le_of_ble_eq_true rfl) dX7_put_36 fun r10 S9 => ?_
        exact g_iret (pc := 39) C hr dX7_put_39
    · refine g_bipush (pc := 16) (v := -2) C dX7_put_16 (by decide) ?_
      exact g_iret (pc := 18) C hr dX7_put_18
noncomputable def m_X7_get (x1 : Int32) (x2 : Int32) (x3 : Int32) (S : St) : Option (Int32 × St) :=
bnd (m_X7_isSheet x1 S) fun r2 S1 =>
if r2 = 0 then (
some ((-2147483648 : Int32), S1))
else
bnd (m_X7_in x2 (0 : Int32) (2 : Int32) S1) fun r4 S3 =>
if r4 = 0 then (
some ((-2147483648 : Int32), S3))
else
bnd (m_X7_lacks x1 x2 x3 S3) fun r6 S5 =>
if 0 < r6 then (
nm (sI S5 45 0 r6) fun S7 =>
some ((-2147483648 : Int32), S7))
else
chk (((48 : Int32) * x1) + x3) 192 <|
some ((gI S5 20 (ix (((48 : Int32) * x1) + x3))), S5)
set_option maxRecDepth 20000 in
theorem c_X7_get {l : Launch} {D : va_G} {ad : Nat → Nat} {cI cJ cZ : ClassId} {n : Nat} (hD : ∀ sz S, va_D (Adr ad n sz) (wM ad cI cJ cZ S)) {x1 : Int32} {x2 : Int32} {x3 : Int32} {S : St} {z : Int32 × St} (hf : m_X7_get x1 x2 x3 S = some z) : CtI l yX7_get cX7_get 5 (some .int) ({ frames := 2, cells := 0, slots := 0, locals := 45 } : Room) D (wM ad cI cJ cZ) (tyX cI cJ cZ) ad n [.ref (ad 0), .int x1, .int x2, .int x3] S z := by
  refine CtI.of hf (by decide +kernel) (Nat.le_of_ble_eq_true rfl) hD (fun p e s m args below meth c C hr => ?_)
  refine g_sub [0, 1, 2, 3] (lv2 := [(0, .ref (ad 0)), (1, .int x1), (2, .int x2), (3, .int x3)]) rfl ?_
  unfold m_X7_get
  refine g_iload_n (pc := 0) C dX7_get_0 (i := 1) rfl 1 rfl ?_
  refine g_callSi (pc := 1) (As := [.int _]) C q1009 mw_X7_isSheet (fun _ hz => c_X7_isSheet C.2.2.2.2.2.2.2.1 hz) ⟨Nat.le_of_ble_eq_true rfl, Nat.le_of_ble_eq_true rfl⟩ rfl rfl rfl (Nat.le_of_ble_eq_true rfl) dX7_get_1 fun r2 S1 => ?_
  refine g_if_eq (pc := 4) (tgt := 16) C dX7_get_4 (by decide) ?_ ?_
  · refine g_ldc (pc := 16) C q1238 dX7_get_16 ?_
    exact g_iret (pc := 18) C hr dX7_get_18
  · refine g_iload_n (pc := 7) C dX7_get_7 (i := 2) rfl 2 rfl ?_
    refine g_iconst (pc := 8) (v := 0) C dX7_get_8 (by decide) ?_
    refine g_iconst (pc := 9) (v := 2) C dX7_get_9 (by decide) ?_
    refine g_callSi (pc := 10) (As := [.int _, .int _, .int _]) C q960 mw_X7_in (fun _ hz => c_X7_in C.2.2.2.2.2.2.2.1 hz) ⟨Nat.le_of_ble_eq_true rfl, Nat.le_of_ble_eq_true rfl⟩ rfl rfl rfl (Nat.le_of_ble_eq_true rfl) dX7_get_10 fun r4 S3 => ?_
    refine g_if_ne (pc := 13) (tgt := 19) C dX7_get_13 (by decide) ?_ ?_
    · refine g_aload_n (pc := 19) C dX7_get_19 (i := 0) rfl 0 rfl ?_
      refine g_iload_n (pc := 20) C dX7_get_20 (i := 1) rfl 1 rfl ?_
      refine g_iload_n (pc := 21) C dX7_get_21 (i := 2) rfl 2 rfl ?_
      refine g_iload_n (pc := 22) C dX7_get_22 (i := 3) rfl 3 rfl ?_
      refine g_callVi (pc := 23) (As := [.int _, .int _, .int _]) C q1226 mw_X7_lacks (fun _ hz => c_X7_lacks C.2.2.2.2.2.2.2.1 hz) ⟨Nat.le_of_ble_eq_true rfl, Nat.le_of_ble_eq_true rfl⟩ rfl rfl 0 rfl rfl rfl (Nat.le_of_ble_eq_true rfl) dX7_get_23 fun r6 S5 => ?_
      refine g_istore (pc := 26) (i := 4) (j := 0) (lv2 := [(4, .int r6), (0, .ref (ad 0)), (1, .int x1), (2, .int x2), (3, .int x3)]) C dX7_get_26 (by decide) rfl ?_
      refine g_iload (pc := 28) C dX7_get_28 0 rfl ?_
      refine g_if_le (pc := 30) (tgt := 42) C dX7_get_30 (by decide) ?_ ?_
      · refine g_aload_n (pc := 42) C dX7_get_42 (i := 0) rfl 1 rfl ?_
        refine gt_X7_items (pc := 43) C q897 dX7_get_43 ?_
        refine g_bipush (pc := 46) (v := 48) C dX7_get_46 (by decide) ?_
        refine g_iload_n (pc := 48) C dX7_get_48 (i := 1) rfl 2 rfl ?_
        refine g_imul (pc := 49) C dX7_get_49 ?_
        refine g_iload_n (pc := 50) C dX7_get_50 (i := 3) rfl 4 rfl ?_
        refine g_iadd (pc := 51) C dX7_get_51 ?_
        refine al_X7_items (pc := 52) C dX7_get_52 ?_
        exact g_iret (pc := 53) C hr dX7_get_53
      · refine g_aload_n (pc := 33) C dX7_get_33 (i := 0) rfl 1 rfl ?_
        refine g_iload (pc := 34) C dX7_get_34 0 rfl ?_
        refine pt_X7_finding (pc := 36) C q899 dX7_get_36 fun S7 => ?_
        refine g_ldc (pc := 39) C q1238 dX7_get_39 ?_
        exact g_iret (pc := 41) C hr dX7_get_41
    · refine g_ldc (pc := 16) C q1238 dX7_get_16 ?_
      exact g_iret (pc := 18) C hr dX7_get_18
noncomputable def b_X7_copy_120 (x1 : Int32) (x2 : Int32) (x3 : Int32) (x4 : Int32) (x5 : Int32) (k : St → Option (Int32 × St)) (rec : Int32 → St → Option (Int32 × St)) (x6 : Int32) (S : St) : Option (Int32 × St) :=
if x6 < x5 then (
chk ((((48 : Int32) * x1) + x2) + x6) 192 <|
chk x6 48 <|
nm (sI S 21 (ix x6) (gI S 20 (ix ((((48 : Int32) * x1) + x2) + x6)))) fun S15 =>
rec (x6 + 1) S15)
else
k S
noncomputable def b_X7_copy_157 (x3 : Int32) (x4 : Int32) (x5 : Int32) (k : St → Option (Int32 × St)) (rec : Int32 → St → Option (Int32 × St)) (x6 : Int32) (S : St) : Option (Int32 × St) :=
if x6 < x5 then (
chk x6 48 <|
chk ((((48 : Int32) * x3) + x4) + x6) 192 <|
nm (sI S 20 (ix ((((48 : Int32) * x3) + x4) + x6)) (gI S 21 (ix x6))) fun S17 =>
rec (x6 + 1) S17)
else
k S
noncomputable def m_X7_copy (x1 : Int32) (x2 : Int32) (x3 : Int32) (x4 : Int32) (x5 : Int32) (S : St) : Option (Int32 × St) :=
bnd (m_X7_isSheet x1 S) fun r2 S1 =>
if r2 = 0 then (
some ((-2 : Int32), S1))
else
bnd (m_X7_isSheet x3 S1) fun r4 S3 =>
if r4 = 0 then (
some ((-2 : Int32), S3))
else
chk x1 4 <|
if (gI S3 17 (ix x1)) = 0 then (
bnd (m_X7_meets (1 : Int32) S3) fun r6 S5 =>
some (r6, S5))
else
chk x3 4 <|
if (gI S3 17 (ix x3)) = 0 then (
bnd (m_X7_meets (1 : Int32) S3) fun r24 S23 =>
some (r24, S23))
else
chk x1 4 <|
chk x3 4 <|
if (gI S3 18 (ix x1)) = (gI S3 18 (ix x3)) then (
if x2 < 0 then (
bnd (m_X7_meets (2 : Int32) S3) fun r8 S7 =>
some (r8, S7))
else
if x4 < 0 then (
bnd (m_X7_meets (2 : Int32) S3) fun r10 S9 =>
some (r10, S9))
else
if x5 < 0 then (
bnd (m_X7_meets (2 : Int32) S3) fun r12 S11 =>
some (r12, S11))
else
chk x1 4 <|
if 0 < (lg_cmp ((x2).toInt64 + (x5).toInt64) ((gI S3 19 (ix x1))).toInt64) then (
bnd (m_X7_meets (2 : Int32) S3) fun r14 S13 =>
some (r14, S13))
else
chk x3 4 <|
if 0 < (lg_cmp ((x4).toInt64 + (x5).toInt64) ((gI S3 19 (ix x3))).toInt64) then (
bnd (m_X7_meets (2 : Int32) S3) fun r20 S19 =>
some (r20, S19))
else
it1 (b_X7_copy_120 x1 x2 x3 x4 x5 (fun S16 =>
it1 (b_X7_copy_157 x3 x4 x5 (fun S18 =>
some ((1 : Int32), S18))) 5000 (0 : Int32) S16)) 5000 (0 : Int32) S3)
else
bnd (m_X7_meets (4 : Int32) S3) fun r22 S21 =>
some (r22, S21)
set_option maxRecDepth 20000 in
theorem u_X7_copy_120 (C : Cx p s m args meth c cX7_copy 7 RX7 D (tyX cI cJ cZ) ad n (wM ad cI cJ cZ)) (hr : meth.sig.returnType = (some .int)) (x1 : Int32) (x2 : Int32) (x3 : Int32) (x4 : Int32) (x5 : Int32) (k : St → Option (Int32 × St)) (hk : ∀ (S : St), GM p l e ({ frames := 2, cells := 0, slots := 0, locals := 42 } : Room) s m args below meth c D ad n (wM ad cI cJ cZ) 7 (QI D (wM ad cI cJ cZ) ad n args s below) (k S) S 154 [(0, .ref (ad 0)), (3, .int x3), (4, .int x4), (5, .int x5)] []) (rec : Int32 → St → Option (Int32 × St)) (hrec : ∀ (x6 : Int32) (S : St), GM p l e ({ frames := 2, cells := 0, slots := 0, locals := 42 } : Room) s m args below meth c D ad n (wM ad cI cJ cZ) 7 (QI D (wM ad cI cJ cZ) ad n args s below) (rec x6 S) S 120 [(0, .ref (ad 0)), (1, .int x1), (2, .int x2), (3, .int x3), (4, .int x4), (5, .int x5), (6, .int x6)] []) (x6 : Int32) (S : St) : GM p l e ({ frames := 2, cells := 0, slots := 0, locals := 42 } : Room) s m args below meth c D ad n (wM ad cI cJ cZ) 7 (QI D (wM ad cI cJ cZ) ad n args s below) (b_X7_copy_120 x1 x2 x3 x4 x5 k rec x6 S) S 120 [(0, .ref (ad 0)), (1, .int x1), (2, .int x2), (3, .int x3), (4, .int x4), (5, .int x5), (6, .int x6)] [] := by
  unfold b_X7_copy_120
  refine g_iload (pc := 120) C dX7_copy_120 6 rfl ?_
  refine g_iload (pc := 122) C dX7_copy_122 5 rfl ?_
  refine g_icmp_ge (pc := 124) (tgt := 154) C dX7_copy_124 (by decide) ?_ ?_
  · refine g_sub [0, 3, 4, 5] rfl (hk _)
  · refine g_aload_n (pc := 127) C dX7_copy_127 (i := 0) rfl 0 rfl ?_
    refine gt_X7_moved (pc := 128) C q898 dX7_copy_128 ?_
    refine g_iload (pc := 131) C dX7_copy_131 6 rfl ?_
    refine g_aload_n (pc := 133) C dX7_copy_133 (i := 0) rfl 0 rfl ?_
    refine gt_X7_items (pc := 134) C q897 dX7_copy_134 ?_
    refine g_bipush (pc := 137) (v := 48) C dX7_copy_137 (by decide) ?_
    refine g_iload_n (pc := 139) C dX7_copy_139 (i := 1) rfl 1 rfl ?_
    refine g_imul (pc := 140) C dX7_copy_140 ?_
    refine g_iload_n (pc := 141) C dX7_copy_141 (i := 2) rfl 2 rfl ?_
    refine g_iadd (pc := 142) C dX7_copy_142 ?_
    refine g_iload (pc := 143) C dX7_copy_143 6 rfl ?_
    refine g_iadd (pc := 145) C dX7_copy_145 ?_
    refine al_X7_items (pc := 146) C dX7_copy_146 ?_
    refine as_X7_moved (pc := 147) C dX7_copy_147 fun S15 => ?_
    refine g_iinc (pc := 148) (v := (x6 + 1)) (lv2 := [(6, .int (x6 + 1)), (0, .ref (ad 0)), (1, .int x1), (2, .int x2), (3, .int x3), (4, .int x4), (5, .int x5)]) C dX7_copy_148 6 rfl rfl (by decide) rfl ?_
    refine g_goto (pc := 151) (tgt := 120) C dX7_copy_151 (by decide) ?_
    refine g_sub [1, 2, 3, 4, 5, 6, 0] rfl (hrec _ _)
set_option maxRecDepth 20000 in
theorem u_X7_copy_157 (C : Cx p s m args meth c cX7_copy 7 RX7 D (tyX cI cJ cZ) ad n (wM ad cI cJ cZ)) (hr : meth.sig.returnType = (some .int)) (x3 : Int32) (x4 : Int32) (x5 : Int32) (k : St → Option (Int32 × St)) (hk : ∀ (S : St), GM p l e ({ frames := 2, cells := 0, slots := 0, locals := 42 } : Room) s m args below meth c D ad n (wM ad cI cJ cZ) 7 (QI D (wM ad cI cJ cZ) ad n args s below) (k S) S 192 [] []) (rec : Int32 → St → Option (Int32 × St)) (hrec : ∀ (x6 : Int32) (S : St), GM p l e ({ frames := 2, cells := 0, slots := 0, locals := 42 } : Room) s m args below meth c D ad n (wM ad cI cJ cZ) 7 (QI D (wM ad cI cJ cZ) ad n args s below) (rec x6 S) S 157 [(0, .ref (ad 0)), (3, .int x3), (4, .int x4), (5, .int x5), (6, .int x6)] []) (x6 : Int32) (S : St) : GM p l e ({ frames := 2, cells := 0, slots := 0, locals := 42 } : Room) s m args below meth c D ad n (wM ad cI cJ cZ) 7 (QI D (wM ad cI cJ cZ) ad n args s below) (b_X7_copy_157 x3 x4 x5 k rec x6 S) S 157 [(0, .ref (ad 0)), (3, .int x3), (4, .int x4), (5, .int x5), (6, .int x6)] [] := by
  unfold b_X7_copy_157
  refine g_iload (pc := 157) C dX7_copy_157 4 rfl ?_
  refine g_iload (pc := 159) C dX7_copy_159 3 rfl ?_
  refine g_icmp_ge (pc := 161) (tgt := 192) C dX7_copy_161 (by decide) ?_ ?_
  · refine g_sub [] rfl (hk _)
  · refine g_aload_n (pc := 164) C dX7_copy_164 (i := 0) rfl 0 rfl ?_
    refine gt_X7_items (pc := 165) C q897 dX7_copy_165 ?_
    refine g_bipush (pc := 168) (v := 48) C dX7_copy_168 (by decide) ?_
    refine g_iload_n (pc := 170) C dX7_copy_170 (i := 3) rfl 1 rfl ?_
    refine g_imul (pc := 171) C dX7_copy_171 ?_
    refine g_iload (pc := 172) C dX7_copy_172 2 rfl ?_
    refine g_iadd (pc := 174) C dX7_copy_174 ?_
    refine g_iload (pc := 175) C dX7_copy_175 4 rfl ?_
    refine g_iadd (pc := 177) C dX7_copy_177 ?_
    refine g_aload_n (pc := 178) C dX7_copy_178 (i := 0) rfl 0 rfl ?_
    refine gt_X7_moved (pc := 179) C q898 dX7_copy_179 ?_
    refine g_iload (pc := 182) C dX7_copy_182 4 rfl ?_
    refine al_X7_moved (pc := 184) C dX7_copy_184 ?_
    refine as_X7_items (pc := 185) C dX7_copy_185 fun S17 => ?_
    refine g_iinc (pc := 186) (v := (x6 + 1)) (lv2 := [(6, .int (x6 + 1)), (0, .ref (ad 0)), (3, .int x3), (4, .int x4), (5, .int x5)]) C dX7_copy_186 4 rfl rfl (by decide) rfl ?_
    refine g_goto (pc := 189) (tgt := 157) C dX7_copy_189 (by decide) ?_
    refine g_sub [1, 2, 3, 4, 0] rfl (hrec _ _)
set_option maxRecDepth 20000 in
theorem c_X7_copy {l : Launch} {D : va_G} {ad : Nat → Nat} {cI cJ cZ : ClassId} {n : Nat} (hD : ∀ sz S, va_D (Adr ad n sz) (wM ad cI cJ cZ S)) {x1 : Int32} {x2 : Int32} {x3 : Int32} {x4 : Int32} {x5 : Int32} {S : St} {z : Int32 × St} (hf : m_X7_copy x1 x2 x3 x4 x5 S = some z) : CtI l yX7_copy cX7_copy 7 (some .int) ({ frames := 2, cells := 0, slots := 0, locals := 42 } : Room) D (wM ad cI cJ cZ) (tyX cI cJ cZ) ad n [.ref (ad 0), .int x1, .int x2, .int x3, .int x4, .int x5] S z := by
  refine CtI.of hf (by decide +kernel) (Nat.le_of_ble_eq_true rfl) hD (fun p e s m args below meth c C hr => ?_)
  refine g_sub [0, 1, 2, 3, 4, 5] (lv2 := [(0, .ref (ad 0)), (1, .int x1), (2, .int x2), (3, .int x3), (4, .int x4), (5, .int x5)]) rfl ?_
  unfold m_X7_copy
  refine g_iload_n (pc := 0) C dX7_copy_0 (i := 1) rfl 1 rfl ?_
  refine g_callSi (pc := 1) (As := [.int _]) C q1009 mw_X7_isSheet (fun _ hz => c_X7_isSheet C.2.2.2.2.2.2.2.1 hz) ⟨Nat.le_of_ble_eq_true rfl, Nat.le_of_ble_eq_true rfl⟩ rfl rfl rfl (Nat.le_of_ble_eq_true rfl) dX7_copy_1 fun r2 S1 => ?_
  refine g_if_eq (pc := 4) (tgt := 14) C dX7_copy_4 (by decide) ?_ ?_
  · refine g_bipush (pc := 14) (v := -2) C dX7_copy_14 (by decide) ?_
    exact g_iret (pc := 16) C hr dX7_copy_16
  · refine g_iload_n (pc := 7) C dX7_copy_7 (i := 3) rfl 3 rfl ?_
    refine g_callSi (pc := 8) (As := [.int _]) C q1009 mw_X7_isSheet (fun _ hz => c_X7_isSheet C.2.2.2.2.2.2.2.1 hz) ⟨Nat.le_of_ble_eq_true rfl, Nat.le_of_ble_eq_true rfl⟩ rfl rfl rfl (Nat.le_of_ble_eq_true rfl) dX7_copy_8 fun r4 S3 => ?_
    refine g_if_ne (pc := 11) (tgt := 17) C dX7_copy_11 (by decide) ?_ ?_
    · refine g_aload_n (pc := 17) C dX7_copy_17 (i := 0) rfl 0 rfl ?_
      refine gt_X7_isThere (pc := 18) C q894 dX7_copy_18 ?_
      refine g_iload_n (pc := 21) C dX7_copy_21 (i := 1) rfl 1 rfl ?_
      refine al_X7_isThere (pc := 22) C dX7_copy_22 ?_
      refine g_if_eq (pc := 23) (tgt := 35) C dX7_copy_23 (by decide) ?_ ?_
      · refine g_aload_n (pc := 35) C dX7_copy_35 (i := 0) rfl 0 rfl ?_
        refine g_iconst (pc := 36) (v := 1) C dX7_copy_36 (by decide) ?_
        refine g_callVi (pc := 37) (As := [.int _]) C q1012 mw_X7_meets (fun _ hz => c_X7_meets C.2.2.2.2.2.2.2.1 hz) ⟨Nat.le_of_ble_eq_true rfl, Nat.le_of_ble_eq_true rfl⟩ rfl rfl 0 rfl rfl rfl (Nat.le_of_ble_eq_true rfl) dX7_copy_37 fun r6 S5 => ?_
        exact g_iret (pc := 40) C hr dX7_copy_40
      · refine g_aload_n (pc := 26) C dX7_copy_26 (i := 0) rfl 0 rfl ?_
        refine gt_X7_isThere (pc := 27) C q894 dX7_copy_27 ?_
        refine g_iload_n (pc := 30) C dX7_copy_30 (i := 3) rfl 3 rfl ?_
        refine al_X7_isThere (pc := 31) C dX7_copy_31 ?_
        refine g_if_ne (pc := 32) (tgt := 41) C dX7_copy_32 (by decide) ?_ ?_
        · refine g_aload_n (pc := 41) C dX7_copy_41 (i := 0) rfl 0 rfl ?_
          refine gt_X7_forms (pc := 42) C q895 dX7_copy_42 ?_
          refine g_iload_n (pc := 45) C dX7_copy_45 (i := 1) rfl 1 rfl ?_
          refine al_X7_forms (pc := 46) C dX7_copy_46 ?_
          refine g_aload_n (pc := 47) C dX7_copy_47 (i := 0) rfl 0 rfl ?_
          refine gt_X7_forms (pc := 48) C q895 dX7_copy_48 ?_
          refine g_iload_n (pc := 51) C dX7_copy_51 (i := 3) rfl 3 rfl ?_
          refine al_X7_forms (pc := 52) C dX7_copy_52 ?_
          refine g_icmp_eq (pc := 53) (tgt := 62) C dX7_copy_53 (by decide) ?_ ?_
          · refine g_iload_n (pc := 62) C dX7_copy_62 (i := 2) rfl 2 rfl ?_
            refine g_if_lt (pc := 63) (tgt := 111) C dX7_copy_63 (by decide) ?_ ?_
            · refine g_aload_n (pc := 111) C dX7_copy_111 (i := 0) rfl 0 rfl ?_
              refine g_iconst (pc := 112) (v := 2) C dX7_copy_112 (by decide) ?_
              refine g_callVi (pc := 113) (As := [.int _]) C q1012 mw_X7_meets (fun _ hz => c_X7_meets C.2.2.2.2.2.2.2.1 hz) ⟨Nat.le_of_ble_eq_true rfl, Nat.le_of_ble_eq_true rfl⟩ rfl rfl 0 rfl rfl rfl (Nat.le_of_ble_eq_true rfl) dX7_copy_113 fun r8 S7 => ?_
              exact g_iret (pc := 116) C hr dX7_copy_116
            · refine g_iload (pc := 66) C dX7_copy_66 4 rfl ?_
              refine g_if_lt (pc := 68) (tgt := 111) C dX7_copy_68 (by decide) ?_ ?_
              · refine g_aload_n (pc := 111) C dX7_copy_111 (i := 0) rfl 0 rfl ?_
                refine g_iconst (pc := 112) (v := 2) C dX7_copy_112 (by decide) ?_
                refine g_callVi (pc := 113) (As := [.int _]) C q1012 mw_X7_meets (fun _ hz => c_X7_meets C.2.2.2.2.2.2.2.1 hz) ⟨Nat.le_of_ble_eq_true rfl, Nat.le_of_ble_eq_true rfl⟩ rfl rfl 0 rfl rfl rfl (Nat.le_of_ble_eq_true rfl) dX7_copy_113 fun r10 S9 => ?_
                exact g_iret (pc := 116) C hr dX7_copy_116
              · refine g_iload (pc := 71) C dX7_copy_71 5 rfl ?_
                refine g_if_lt (pc := 73) (tgt := 111) C dX7_copy_73 (by decide) ?_ ?_
                · refine g_aload_n (pc := 111) C dX7_copy_111 (i := 0) rfl 0 rfl ?_
                  refine g_iconst (pc := 112) (v := 2) C dX7_copy_112 (by decide) ?_
                  refine g_callVi (pc := 113) (As := [.int _]) C q1012 mw_X7_meets (fun _ hz => c_X7_meets C.2.2.2.2.2.2.2.1 hz) ⟨Nat.le_of_ble_eq_true rfl, Nat.le_of_ble_eq_true rfl⟩ rfl rfl 0 rfl rfl rfl (Nat.le_of_ble_eq_true rfl) dX7_copy_113 fun r12 S11 => ?_
                  exact g_iret (pc := 116) C hr dX7_copy_116
                · refine g_iload_n (pc := 76) C dX7_copy_76 (i := 2) rfl 2 rfl ?_
                  refine g_i2l (pc := 77) C dX7_copy_77 ?_
                  refine g_iload (pc := 78) C dX7_copy_78 5 rfl ?_
                  refine g_i2l (pc := 80) C dX7_copy_80 ?_
                  refine g_ladd (pc := 81) C dX7_copy_81 ?_
                  refine g_aload_n (pc := 82) C dX7_copy_82 (i := 0) rfl 0 rfl ?_
                  refine gt_X7_sizes (pc := 83) C q896 dX7_copy_83 ?_
                  refine g_iload_n (pc := 86) C dX7_copy_86 (i := 1) rfl 1 rfl ?_
                  refine al_X7_sizes (pc := 87) C dX7_copy_87 ?_
                  refine g_i2l (pc := 88) C dX7_copy_88 ?_
                  refine g_lcmp (pc := 89) C dX7_copy_89 ?_
                  refine g_if_gt (pc := 90) (tgt := 111) C dX7_copy_90 (by decide) ?_ ?_
                  · refine g_aload_n (pc := 111) C dX7_copy_111 (i := 0) rfl 0 rfl ?_
                    refine g_iconst (pc := 112) (v := 2) C dX7_copy_112 (by decide) ?_
                    refine g_callVi (pc := 113) (As := [.int _]) C q1012 mw_X7_meets (fun _ hz => c_X7_meets C.2.2.2.2.2.2.2.1 hz) ⟨Nat.le_of_ble_eq_true rfl, Nat.le_of_ble_eq_true rfl⟩ rfl rfl 0 rfl rfl rfl (Nat.le_of_ble_eq_true rfl) dX7_copy_113 fun r14 S13 => ?_
                    exact g_iret (pc := 116) C hr dX7_copy_116
                  · refine g_iload (pc := 93) C dX7_copy_93 4 rfl ?_
                    refine g_i2l (pc := 95) C dX7_copy_95 ?_
                    refine g_iload (pc := 96) C dX7_copy_96 5 rfl ?_
                    refine g_i2l (pc := 98) C dX7_copy_98 ?_
                    refine g_ladd (pc := 99) C dX7_copy_99 ?_
                    refine g_aload_n (pc := 100) C dX7_copy_100 (i := 0) rfl 0 rfl ?_
                    refine gt_X7_sizes (pc := 101) C q896 dX7_copy_101 ?_
                    refine g_iload_n (pc := 104) C dX7_copy_104 (i := 3) rfl 3 rfl ?_
                    refine al_X7_sizes (pc := 105) C dX7_copy_105 ?_
                    refine g_i2l (pc := 106) C dX7_copy_106 ?_
                    refine g_lcmp (pc := 107) C dX7_copy_107 ?_
                    refine g_if_le (pc := 108) (tgt := 117) C dX7_copy_108 (by decide) ?_ ?_
                    · refine g_iconst (pc := 117) (v := 0) C dX7_copy_117 (by decide) ?_
                      refine g_istore (pc := 118) (i := 6) (j := 0) (lv2 := [(6, .int (0 : Int32)), (0, .ref (ad 0)), (1, .int x1), (2, .int x2), (3, .int x3), (4, .int x4), (5, .int x5)]) C dX7_copy_118 (by decide) rfl ?_
                      refine g_sub [1, 2, 3, 4, 5, 6, 0] (lv2 := [(0, .ref (ad 0)), (1, .int x1), (2, .int x2), (3, .int x3), (4, .int x4), (5, .int x5), (6, .int (0 : Int32))]) rfl ?_
                      refine g_it1 (pc := 120) (u_X7_copy_120 C hr _ _ _ _ _ _ fun S16 => ?_) _ _ _
                      refine g_iconst (pc := 154) (v := 0) C dX7_copy_154 (by decide) ?_
                      refine g_istore (pc := 155) (i := 6) (j := 0) (lv2 := [(6, .int (0 : Int32)), (0, .ref (ad 0)), (3, .int x3), (4, .int x4), (5, .int x5)]) C dX7_copy_155 (by decide) rfl ?_
                      refine g_sub [1, 2, 3, 4, 0] (lv2 := [(0, .ref (ad 0)), (3, .int x3), (4, .int x4), (5, .int x5), (6, .int (0 : Int32))]) rfl ?_
                      refine g_it1 (pc := 157) (u_X7_copy_157 C hr _ _ _ _ fun S18 => ?_) _ _ _
                      refine g_iconst (pc := 192) (v := 1) C dX7_copy_192 (by decide) ?_
                      exact g_iret (pc := 193) C hr dX7_copy_193
                    · refine g_aload_n (pc := 111) C dX7_copy_111 (i := 0) rfl 0 rfl ?_
                      refine g_iconst (pc := 112) (v := 2) C dX7_copy_112 (by decide) ?_
                      refine g_callVi (pc := 113) (As := [.int _]) C q1012 mw_X7_meets (fun _ hz => c_X7_meets C.2.2.2.2.2.2.2.1 hz) ⟨Nat.le_of_ble_eq_true rfl, Nat.le_of_ble_eq_true rfl⟩ rfl rfl 0 rfl rfl rfl (Nat.le_of_ble_eq_true rfl) dX7_copy_113 fun r20 S19 => ?_
                      exact g_iret (pc := 116) C hr dX7_copy_116
          · refine g_aload_n (pc := 56) C dX7_copy_56 (i := 0) rfl 0 rfl ?_
            refine g_iconst (pc := 57) (v := 4) C dX7_copy_57 (by decide) ?_
            refine g_callVi (pc := 58) (As := [.int _]) C q1012 mw_X7_meets (fun _ hz => c_X7_meets C.2.2.2.2.2.2.2.1 hz) ⟨Nat.le_of_ble_eq_true rfl, Nat.le_of_ble_eq_true rfl⟩ rfl rfl 0 rfl rfl rfl (Nat.le_of_ble_eq_true rfl) dX7_copy_58 fun r22 S21 => ?_
            exact g_iret (pc := 61) C hr dX7_copy_61
        · refine g_aload_n (pc := 35) C dX7_copy_35 (i := 0) rfl 0 rfl ?_
          refine g_iconst (pc := 36) (v := 1) C dX7_copy_36 (by decide) ?_
          refine g_callVi (pc := 37) (As := [.int _]) C q1012 mw_X7_meets (fun _ hz => c_X7_meets C.2.2.2.2.2.2.2.1 hz) ⟨Nat.le_of_ble_eq_true rfl, Nat.le_of_ble_eq_true rfl⟩ rfl rfl 0 rfl rfl rfl (Nat.le_of_ble_eq_true rfl) dX7_copy_37 fun r24 S23 => ?_
          exact g_iret (pc := 40) C hr dX7_copy_40
    · refine g_bipush (pc := 14) (v := -2) C dX7_copy_14 (by decide) ?_
      exact g_iret (pc := 16) C hr dX7_copy_16
noncomputable def b_X7_write_40 (x1 : Int32) (x2 : Int32) (k : Int32 → St → Option (Int32 × St)) (rec : Int32 → St → Option (Int32 × St)) (x4 : Int32) (S : St) : Option (Int32 × St) :=
chk x2 4 <|
if x4 < (gI S 19 (ix x2)) then (
if x4 < (gI S 41 0) then (
bnd (m_X7_lightOf x4 x1 S) fun r8 S7 =>
bnd (m_X7_ones r8 S7) fun r10 S9 =>
bndV (m_X7_keep x2 x4 r10 S9) fun S11 =>
rec (x4 + 1) S11)
else
k x4 S)
else
k x4 S
noncomputable def m_X7_write (x1 : Int32) (x2 : Int32) (S : St) : Option (Int32 × St) :=
bnd (m_X7_isFour x1 S) fun r2 S1 =>
if r2 = 0 then (
some ((-2 : Int32), S1))
else
bnd (m_X7_isSheet x2 S1) fun r4 S3 =>
if r4 = 0 then (
some ((-2 : Int32), S3))
else
chk x2 4 <|
if (gI S3 17 (ix x2)) = 0 then (
bnd (m_X7_meets (1 : Int32) S3) fun r15 S14 =>
some (r15, S14))
else
bnd (m_X7_faultNow S3) fun r6 S5 =>
it1 (b_X7_write_40 x1 x2 (fun x4_S13 S13 =>
some (x4_S13, S13))) 5000 (0 : Int32) S5
set_option maxRecDepth 20000 in
theorem u_X7_write_40 (C : Cx p s m args meth c cX7_write 5 RX7 D (tyX cI cJ cZ) ad n (wM ad cI cJ cZ)) (hr : meth.sig.returnType = (some .int)) (x1 : Int32) (x2 : Int32) (k : Int32 → St → Option (Int32 × St)) (hk : ∀ (x4 : Int32) (S : St), GM p l e ({ frames := 3, cells := 0, slots := 0, locals := 72 } : Room) s m args below meth c D ad n (wM ad cI cJ cZ) 5 (QI D (wM ad cI cJ cZ) ad n args s below) (k x4 S) S 83 [(4, .int x4)] []) (rec : Int32 → St → Option (Int32 × St)) (hrec : ∀ (x4 : Int32) (S : St), GM p l e ({ frames := 3, cells := 0, slots := 0, locals := 72 } : Room) s m args below meth c D ad n (wM ad cI cJ cZ) 5 (QI D (wM ad cI cJ cZ) ad n args s below) (rec x4 S) S 40 [(0, .ref (ad 0)), (1, .int x1), (2, .int x2), (4, .int x4)] []) (x4 : Int32) (S : St) : GM p l e ({ frames := 3, cells := 0, slots := 0, locals := 72 } : Room) s m args below meth c D ad n (wM ad cI cJ cZ) 5 (QI D (wM ad cI cJ cZ) ad n args s below) (b_X7_write_40 x1 x2 k rec x4 S) S 40 [(0, .ref (ad 0)), (1, .int x1), (2, .int x2), (4, .int x4)] [] := by
  unfold b_X7_write_40
  refine g_iload (pc := 40) C dX7_write_40 3 rfl ?_
  refine g_aload_n (pc := 42) C dX7_write_42 (i := 0) rfl 0 rfl ?_
  refine gt_X7_sizes (pc := 43) C q896 dX7_write_43 ?_
  refine g_iload_n (pc := 46) C dX7_write_46 (i := 2) rfl 2 rfl ?_
  refine al_X7_sizes (pc := 47) C dX7_write_47 ?_
  refine g_icmp_ge (pc := 48) (tgt := 83) C dX7_write_48 (by decide) ?_ ?_
  · refine g_sub [3] rfl (hk _ _)
  · refine g_iload (pc := 51) C dX7_write_51 3 rfl ?_
    refine g_aload_n (pc := 53) C dX7_write_53 (i := 0) rfl 0 rfl ?_
    refine gt_X7_cells (pc := 54) C q875 dX7_write_54 ?_
    refine g_icmp_ge (pc := 57) (tgt := 83) C dX7_write_57 (by decide) ?_ ?_
    · refine g_sub [3] rfl (hk _ _)
    · refine g_aload_n (pc := 60) C dX7_write_60 (i := 0) rfl 0 rfl ?_
      refine g_iload_n (pc := 61) C dX7_write_61 (i := 2) rfl 2 rfl ?_
      refine g_iload (pc := 62) C dX7_write_62 3 rfl ?_
      refine g_aload_n (pc := 64) C dX7_write_64 (i := 0) rfl 0 rfl ?_
      refine g_iload (pc := 65) C dX7_write_65 3 rfl ?_
      refine g_iload_n (pc := 67) C dX7_write_67 (i := 1) rfl 1 rfl ?_
      refine g_callVi (pc := 68) (As := [.int _, .int _]) C q1039 mw_X7_lightOf (fun _ hz => c_X7_lightOf C.2.2.2.2.2.2.2.1 hz) ⟨Nat.le_of_ble_eq_true rfl, Nat.le_of_ble_eq_true rfl⟩ rfl rfl 0 rfl rfl rfl (Nat.le_of_ble_eq_true rfl) dX7_write_68 fun r8 S7 => ?_
      refine g_callSi (pc := 71) (As := [.int _]) C q1055 mw_X7_ones (fun _ hz => c_X7_ones C.2.2.2.2.2.2.2.1 hz) ⟨Nat.le_of_ble_eq_true rfl, Nat.le_of_ble_eq_true rfl⟩ rfl rfl rfl (Nat.le_of_ble_eq_true rfl) dX7_write_71 fun r10 S9 => ?_
      refine g_callVv (pc := 74) (As := [.int _, .int _, .int _]) C q1230 mw_X7_keep (fun _ hz => c_X7_keep C.2.2.2.2.2.2.2.1 hz) ⟨Nat.le_of_ble_eq_true rfl, Nat.le_of_ble_eq_true rfl⟩ rfl rfl 0 rfl rfl rfl (Nat.le_of_ble_eq_true rfl) dX7_write_74 fun S11 => ?_
      refine g_iinc (pc := 77) (v := (x4 + 1)) (lv2 := [(4, .int (x4 + 1)), (0, .ref (ad 0)), (1, .int x1), (2, .int x2)]) C dX7_write_77 3 rfl rfl (by decide) rfl ?_
      refine g_goto (pc := 80) (tgt := 40) C dX7_write_80 (by decide) ?_
      refine g_sub [1, 2, 3, 0] rfl (hrec _ _)
set_option maxRecDepth 20000 in
theorem c_X7_write {l : Launch} {D : va_G} {ad : Nat → Nat} {cI cJ cZ : ClassId} {n : Nat} (hD : ∀ sz S, va_D (Adr ad n sz) (wM ad cI cJ cZ S)) {x1 : Int32} {x2 : Int32} {S : St} {z : Int32 × St} (hf : m_X7_write x1 x2 S = some z) : CtI l yX7_write cX7_write 5 (some .int) ({ frames := 3, cells := 0, slots := 0, locals := 72 } : Room) D (wM ad cI cJ cZ) (tyX cI cJ cZ) ad n [.ref (ad 0), .int x1, .int x2] S z := by
  refine CtI.of hf (by decide +kernel) (Nat.le_of_ble_eq_true rfl) hD (fun p e s m args below meth c C hr => ?_)
  refine g_sub [0, 1, 2] (lv2 := [(0, .ref (ad 0)), (1, .int x1), (2, .int x2)]) rfl ?_
  unfold m_X7_write
  refine g_iload_n (pc := 0) C dX7_write_0 (i := 1) rfl 1 rfl ?_
  refine g_callSi (pc := 1) (As := [.int _]) C q1002 mw_X7_isFour (fun _ hz => c_X7_isFour C.2.2.2.2.2.2.2.1 hz) ⟨Nat.le_of_ble_eq_true rfl, Nat.le_of_ble_eq_true rfl⟩ rfl rfl rfl (Nat.le_of_ble_eq_true rfl) dX7_write_1 fun r2 S1 => ?_
  refine g_if_eq (pc := 4) (tgt := 14) C dX7_write_4 (by decide) ?_ ?_
  · refine g_bipush (pc := 14) (v := -2) C dX7_write_14 (by decide) ?_
    exact g_iret (pc := 16) C hr dX7_write_16
  · refine g_iload_n (pc := 7) C dX7_write_7 (i := 2) rfl 2 rfl ?_
    refine g_callSi (pc := 8) (As := [.int _]) C q1009 mw_X7_isSheet (fun _ hz => c_X7_isSheet C.2.2.2.2.2.2.2.1 hz) ⟨Nat.le_of_ble_eq_true rfl, Nat.le_of_ble_eq_true rfl⟩ rfl rfl rfl (Nat.le_of_ble_eq_true rfl) dX7_write_8 fun r4 S3 => ?_
    refine g_if_ne (pc := 11) (tgt := 17) C dX7_write_11 (by decide) ?_ ?_
    · refine g_aload_n (pc := 17) C dX7_write_17 (i := 0) rfl 0 rfl ?_
      refine gt_X7_isThere (pc := 18) C q894 dX7_write_18 ?_
      refine g_iload_n (pc := 21) C dX7_write_21 (i := 2) rfl 2 rfl ?_
      refine al_X7_isThere (pc := 22) C dX7_write_22 ?_
      refine g_if_ne (pc := 23) (tgt := 32) C dX7_write_23 (by decide) ?_ ?_
      · refine g_aload_n (pc := 32) C dX7_write_32 (i := 0) rfl 0 rfl ?_
        refine g_callVi (pc := 33) (As := []) C q971 mw_X7_faultNow (fun _ hz => c_X7_faultNow C.2.2.2.2.2.2.2.1 hz) ⟨Nat.le_of_ble_eq_true rfl, Nat.le_of_ble_eq_true rfl⟩ rfl rfl 0 rfl rfl rfl (Nat.le_of_ble_eq_true rfl) dX7_write_33 fun r6 S5 => ?_
        refine g_istore_n (pc := 36) (i := 3) (lv2 := [(3, .int r6), (0, .ref (ad 0)), (1, .int x1), (2, .int x2)]) C dX7_write_36 rfl (by decide) rfl ?_
        refine g_iconst (pc := 37) (v := 0) C dX7_write_37 (by decide) ?_
        refine g_istore (pc := 38) (i := 4) (j := 0) (lv2 := [(4, .int (0 : Int32)), (3, .int r6), (0, .ref (ad 0)), (1, .int x1), (2, .int x2)]) C dX7_write_38 (by decide) rfl ?_
        refine g_sub [2, 3, 4, 0] (lv2 := [(0, .ref (ad 0)), (1, .int x1), (2, .int x2), (4, .int (0 : Int32))]) rfl ?_
        refine g_it1 (pc := 40) (u_X7_write_40 C hr _ _ _ fun x4_S13 S13 => ?_) _ _ _
        refine g_iload (pc := 83) C dX7_write_83 0 rfl ?_
        exact g_iret (pc := 85) C hr dX7_write_85
      · refine g_aload_n (pc := 26) C dX7_write_26 (i := 0) rfl 0 rfl ?_
        refine g_iconst (pc := 27) (v := 1) C dX7_write_27 (by decide) ?_
        refine g_callVi (pc := 28) (As := [.int _]) C q1012 mw_X7_meets (fun _ hz => c_X7_meets C.2.2.2.2.2.2.2.1 hz) ⟨Nat.le_of_ble_eq_true rfl, Nat.le_of_ble_eq_true rfl⟩ rfl rfl 0 rfl rfl rfl (Nat.le_of_ble_eq_true rfl) dX7_write_28 fun r15 S14 => ?_
        exact g_iret (pc := 31) C hr dX7_write_31
    · refine g_bipush (pc := 14) (v := -2) C dX7_write_14 (by decide) ?_
      exact g_iret (pc := 16) C hr dX7_write_16
end MM
