section MM
variable {p : Program} {l : Launch} {e : Env} {s : State} {m : MethodId} {args : Array Value} {below : List Frame} {meth : Method} {c : Code} {D : va_G} {ad : Nat → Nat} {n : Nat} {cI cJ cZ : ClassId}
noncomputable def b_J7_fill_53178_26_5 (x1 : Int32) (x3 : Int32) (k : St → Option (St)) (rec : Int32 → St → Option (St)) (x2 : Int32) (S : St) : Option (St) :=
if x2 < x3 then (
chk x2 16 <|
nm (sI S 26 (ix x2) x1) fun S1 =>
rec (x2 + 1) S1)
else
k S
noncomputable def m_J7_fill_53178_26 (x1 : Int32) (S : St) : Option (St) :=
it1 (b_J7_fill_53178_26_5 x1 (16 : Int32) (fun S2 =>
some S2)) 5000 (0 : Int32) S
set_option maxRecDepth 20000 in
theorem u_J7_fill_53178_26_5 (C : Cx p s m args meth c cJ7_fill_53178 4 RJ7 D (tyX cI cJ cZ) ad n (wX ad cI cJ cZ)) (hr : meth.sig.returnType = none) (x1 : Int32) (x3 : Int32) (k : St → Option (St)) (hk : ∀ (S : St), GM p l e ({ frames := 0, cells := 0, slots := 0, locals := 0 } : Room) s m args below meth c D ad n (wX ad cI cJ cZ) 4 (QV D (wX ad cI cJ cZ) ad n args s below) (k S) S 20 [] []) (rec : Int32 → St → Option (St)) (hrec : ∀ (x2 : Int32) (S : St), GM p l e ({ frames := 0, cells := 0, slots := 0, locals := 0 } : Room) s m args below meth c D ad n (wX ad cI cJ cZ) 4 (QV D (wX ad cI cJ cZ) ad n args s below) (rec x2 S) S 5 [(0, .ref (ad 26)), (1, .int x1), (2, .int x2), (3, .int x3)] []) (x2 : Int32) (S : St) : GM p l e ({ frames := 0, cells := 0, slots := 0, locals := 0 } : Room) s m args below meth c D ad n (wX ad cI cJ cZ) 4 (QV D (wX ad cI cJ cZ) ad n args s below) (b_J7_fill_53178_26_5 x1 x3 k rec x2 S) S 5 [(0, .ref (ad 26)), (1, .int x1), (2, .int x2), (3, .int x3)] [] := by
  unfold b_J7_fill_53178_26_5
  refine g_iload_n (pc := 5) C dJ7_fill_53178_5 (i := 2) rfl 2 rfl ?_
  refine g_iload_n (pc := 6) C dJ7_fill_53178_6 (i := 3) rfl 3 rfl ?_
  refine g_icmp_ge (pc := 7) (tgt := 20) C dJ7_fill_53178_7 (by decide) ?_ ?_
  · refine g_sub [] rfl (hk _)
  · refine g_aload_n (pc := 10) C dJ7_fill_53178_10 (i := 0) rfl 0 rfl ?_
    refine g_iload_n (pc := 11) C dJ7_fill_53178_11 (i := 2) rfl 2 rfl ?_
    refine g_iload_n (pc := 12) C dJ7_fill_53178_12 (i := 1) rfl 1 rfl ?_
    refine as_X6_worths (pc := 13) C dJ7_fill_53178_13 fun S1 => ?_
    refine g_iinc (pc := 14) (v := (x2 + 1)) (lv2 := [(2, .int (x2 + 1)), (0, .ref (ad 26)), (1, .int x1), (3, .int x3)]) C dJ7_fill_53178_14 2 rfl rfl (by decide) rfl ?_
    refine g_goto (pc := 17) (tgt := 5) C dJ7_fill_53178_17 (by decide) ?_
    refine g_sub [1, 2, 0, 3] rfl (hrec _ _)
set_option maxRecDepth 20000 in
theorem c_J7_fill_53178_26 {l : Launch} {D : va_G} {ad : Nat → Nat} {cI cJ cZ : ClassId} {n : Nat} (hD : ∀ sz S, va_D (Adr ad n sz) (wX ad cI cJ cZ S)) {x1 : Int32} {S : St} {z : St} (hf : m_J7_fill_53178_26 x1 S = some z) : CtV l yJ7_fill_53178 cJ7_fill_53178 4 none ({ frames := 0, cells := 0, slots := 0, locals := 0 } : Room) D (wX ad cI cJ cZ) (tyX cI cJ cZ) ad n [.ref (ad 26), .int x1] S z := by
  refine CtV.of hf (by decide +kernel) (Nat.le_of_ble_eq_true rfl) hD (fun p e s m args below meth c C hr => ?_)
  refine g_sub [0, 1] (lv2 := [(0, .ref (ad 26)), (1, .int x1)]) rfl ?_
  unfold m_J7_fill_53178_26
  refine g_iconst (pc := 0) (v := 0) C dJ7_fill_53178_0 (by decide) ?_
  refine g_istore_n (pc := 1) (i := 2) (lv2 := [(2, .int (0 : Int32)), (0, .ref (ad 26)), (1, .int x1)]) C dJ7_fill_53178_1 rfl (by decide) rfl ?_
  refine g_aload_n (pc := 2) C dJ7_fill_53178_2 (i := 0) rfl 1 rfl ?_
  refine ln_X6_worths (pc := 3) C dJ7_fill_53178_3 ?_
  refine g_istore_n (pc := 4) (i := 3) (lv2 := [(3, .int (16 : Int32)), (2, .int (0 : Int32)), (0, .ref (ad 26)), (1, .int x1)]) C dJ7_fill_53178_4 rfl (by decide) rfl ?_
  refine g_sub [2, 3, 1, 0] (lv2 := [(0, .ref (ad 26)), (1, .int x1), (2, .int (0 : Int32)), (3, .int (16 : Int32))]) rfl ?_
  refine g_it1 (pc := 5) (u_J7_fill_53178_26_5 C hr _ _ _ fun S2 => ?_) _ _ _
  exact g_vret (pc := 20) C hr dJ7_fill_53178_20
end MM
