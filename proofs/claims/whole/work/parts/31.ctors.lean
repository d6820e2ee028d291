set_option maxRecDepth 20000 in
theorem c_X1_init {l : Launch} {D : va_G} {cI cJ cZ : ClassId} {a : Nat} : CtC (V := Nat → Nat) l yX1_init cX1_init 1 ({ frames := 1, cells := 3, slots := 44, locals := 12 } : Room) D cI cJ cZ 3 44 (fun _ => True) a (.inr (1, [.null, .null, .null, .int 0, .int 0, .int 0, .int 0, .int 0])) (fun q : Nat → Nat => [(a, .inr (1, [.ref (q 0), .ref (q 1), .ref (q 2), .int 0, .int 0, .int 0, .int 0, .int (-1)])), ((q 0), .inl (cI, 20, .inl (fun _ => 0))), ((q 1), .inl (cI, 12, .inl (fun _ => 0))), ((q 2), .inl (cI, 12, .inl (fun _ => 0)))]) := by
  refine CtC.of (by decide +kernel) rfl (Nat.le_of_ble_eq_true rfl) (fun p e s m args below meth c C hr => ?_)
  refine gc_aload_n (pc := 0) C dX1_init_0 (i := 0) rfl 0 rfl ?_
  refine gc_obj (pc := 1) C q102 q89 dX1_init_1 (Nat.le_of_ble_eq_true rfl) (Nat.le_of_ble_eq_true rfl) ?_
  refine gc_aload_n (pc := 4) C dX1_init_4 (i := 0) rfl 0 rfl ?_
  refine gc_bipush (pc := 5) (v := 20) C dX1_init_5 (by decide) ?_
  refine gc_newai (pc := 7) C 20 q131 (by decide) (by decide) (Nat.le_of_ble_eq_true rfl) (Nat.le_of_ble_eq_true rfl) (Nat.le_of_ble_eq_true rfl) dX1_init_7 fun q_1 => ?_
  refine gc_cast (ws2 := [(a, .inr (1, [.null, .null, .null, .int 0, .int 0, .int 0, .int 0, .int 0])), (q_1, .inl (cI, 20, .inl (fun _ => 0)))]) rfl (a1 := 1) (a2 := 20) rfl rfl ?_
  refine gc_putF (pc := 9) (ws2 := [(a, .inr (1, [.ref q_1, .null, .null, .int 0, .int 0, .int 0, .int 0, .int 0])), (q_1, .inl (cI, 20, .inl (fun _ => 0)))]) C 0 rfl rfl inX1 0 (by decide) rfl rfl q103 tyX1 tyX1_ok nmX1 rfl rfl rfl (Nat.le_of_ble_eq_true rfl) rfl dX1_init_9 ?_
  refine gc_aload_n (pc := 12) C dX1_init_12 (i := 0) rfl 0 rfl ?_
  refine gc_bipush (pc := 13) (v := 12) C dX1_init_13 (by decide) ?_
  refine gc_newai (pc := 15) C 12 q131 (by decide) (by decide) (Nat.le_of_ble_eq_true rfl) (Nat.le_of_ble_eq_true rfl) (Nat.le_of_ble_eq_true rfl) dX1_init_15 fun q_2 => ?_
  refine gc_cast (ws2 := [(a, .inr (1, [.ref q_1, .null, .null, .int 0, .int 0, .int 0, .int 0, .int 0])), (q_1, .inl (cI, 20, .inl (fun _ => 0))), (q_2, .inl (cI, 12, .inl (fun _ => 0)))]) rfl (a1 := 2) (a2 := 32) rfl rfl ?_
  refine gc_putF (pc := 17) (ws2 := [(a, .inr (1, [.ref q_1, .ref q_2, .null, .int 0, .int 0, .int 0, .int 0, .int 0])), (q_1, .inl (cI, 20, .inl (fun _ => 0))), (q_2, .inl (cI, 12, .inl (fun _ => 0)))]) C 0 rfl rfl inX1 1 (by decide) rfl rfl q104 tyX1 tyX1_ok nmX1 rfl rfl rfl (Nat.le_of_ble_eq_true rfl) rfl dX1_init_17 ?_
  refine gc_aload_n (pc := 20) C dX1_init_20 (i := 0) rfl 0 rfl ?_
  refine gc_bipush (pc := 21) (v := 12) C dX1_init_21 (by decide) ?_
  refine gc_newai (pc := 23) C 12 q131 (by decide) (by decide) (Nat.le_of_ble_eq_true rfl) (Nat.le_of_ble_eq_true rfl) (Nat.le_of_ble_eq_true rfl) dX1_init_23 fun q_3 => ?_
  refine gc_cast (ws2 := [(a, .inr (1, [.ref q_1, .ref q_2, .null, .int 0, .int 0, .int 0, .int 0, .int 0])), (q_1, .inl (cI, 20, .inl (fun _ => 0))), (q_2, .inl (cI, 12, .inl (fun _ => 0))), (q_3, .inl (cI, 12, .inl (fun _ => 0)))]) rfl (a1 := 3) (a2 := 44) rfl rfl ?_
  refine gc_putF (pc := 25) (ws2 := [(a, .inr (1, [.ref q_1, .ref q_2, .ref q_3, .int 0, .int 0, .int 0, .int 0, .int 0])), (q_1, .inl (cI, 20, .inl (fun _ => 0))), (q_2, .inl (cI, 12, .inl (fun _ => 0))), (q_3, .inl (cI, 12, .inl (fun _ => 0)))]) C 0 rfl rfl inX1 2 (by decide) rfl rfl q106 tyX1 tyX1_ok nmX1 rfl rfl rfl (Nat.le_of_ble_eq_true rfl) rfl dX1_init_25 ?_
  refine gc_aload_n (pc := 28) C dX1_init_28 (i := 0) rfl 0 rfl ?_
  refine gc_iconst (pc := 29) (v := -1) C dX1_init_29 (by decide) ?_
  refine gc_put (pc := 30) (ws2 := [(a, .inr (1, [.ref q_1, .ref q_2, .ref q_3, .int 0, .int 0, .int 0, .int 0, .int (-1)])), (q_1, .inl (cI, 20, .inl (fun _ => 0))), (q_2, .inl (cI, 12, .inl (fun _ => 0))), (q_3, .inl (cI, 12, .inl (fun _ => 0)))]) C 0 rfl rfl inX1 7 (by decide) rfl q113 tyX1 tyX1_ok nmX1 rfl rfl rfl (Nat.le_of_ble_eq_true rfl) rfl dX1_init_30 ?_
  refine gc_cast (ws2 := (fun q : Nat → Nat => ([(a, .inr (1, [.ref (q 0), .ref (q 1), .ref (q 2), .int 0, .int 0, .int 0, .int 0, .int (-1)])), ((q 0), .inl (cI, 20, .inl (fun _ => 0))), ((q 1), .inl (cI, 12, .inl (fun _ => 0))), ((q 2), .inl (cI, 12, .inl (fun _ => 0)))] : va_W)) (fun k => [q_1, q_2, q_3].getD k 0)) rfl (a1 := 3) (a2 := 44) rfl rfl ?_
  exact gc_vret (pc := 33) (wo := fun q : Nat → Nat => ([(a, .inr (1, [.ref (q 0), .ref (q 1), .ref (q 2), .int 0, .int 0, .int 0, .int 0, .int (-1)])), ((q 0), .inl (cI, 20, .inl (fun _ => 0))), ((q 1), .inl (cI, 12, .inl (fun _ => 0))), ((q 2), .inl (cI, 12, .inl (fun _ => 0)))] : va_W)) C hr (fun k => [q_1, q_2, q_3].getD k 0) trivial dX1_init_33
set_option maxRecDepth 20000 in
theorem c_X2_init {l : Launch} {D : va_G} {cI cJ cZ : ClassId} {a : Nat} : CtC (V := Nat → Nat) l yX2_init cX2_init 1 ({ frames := 1, cells := 2, slots := 128, locals := 12 } : Room) D cI cJ cZ 2 128 (fun _ => True) a (.inr (2, [.null, .null, .int 0, .int 0, .int 0, .int 0, .int 0, .int 0, .int 0, .int 0, .int 0])) (fun q : Nat → Nat => [(a, .inr (2, [.ref (q 0), .ref (q 1), .int 0, .int 0, .int 0, .int 0, .int 0, .int (-1), .int (-1), .int (-1), .int (-1)])), ((q 0), .inl (cI, 64, .inl (fun _ => 0))), ((q 1), .inl (cI, 64, .inl (fun _ => 0)))]) := by
  refine CtC.of (by decide +kernel) rfl (Nat.le_of_ble_eq_true rfl) (fun p e s m args below meth c C hr => ?_)
  refine gc_aload_n (pc := 0) C dX2_init_0 (i := 0) rfl 0 rfl ?_
  refine gc_obj (pc := 1) C q157 q89 dX2_init_1 (Nat.le_of_ble_eq_true rfl) (Nat.le_of_ble_eq_true rfl) ?_
  refine gc_aload_n (pc := 4) C dX2_init_4 (i := 0) rfl 0 rfl ?_
  refine gc_bipush (pc := 5) (v := 64) C dX2_init_5 (by decide) ?_
  refine gc_newai (pc := 7) C 64 q131 (by decide) (by decide) (Nat.le_of_ble_eq_true rfl) (Nat.le_of_ble_eq_true rfl) (Nat.le_of_ble_eq_true rfl) dX2_init_7 fun q_1 => ?_
  refine gc_cast (ws2 := [(a, .inr (2, [.null, .null, .int 0, .int 0, .int 0, .int 0, .int 0, .int 0, .int 0, .int 0, .int 0])), (q_1, .inl (cI, 64, .inl (fun _ => 0)))]) rfl (a1 := 1) (a2 := 64) rfl rfl ?_
  refine gc_putF (pc := 9) (ws2 := [(a, .inr (2, [.ref q_1, .null, .int 0, .int 0, .int 0, .int 0, .int 0, .int 0, .int 0, .int 0, .int 0])), (q_1, .inl (cI, 64, .inl (fun _ => 0)))]) C 0 rfl rfl inX2 0 (by decide) rfl rfl q158 tyX2 tyX2_ok nmX2 rfl rfl rfl (Nat.le_of_ble_eq_true rfl) rfl dX2_init_9 ?_
  refine gc_aload_n (pc := 12) C dX2_init_12 (i := 0) rfl 0 rfl ?_
  refine gc_bipush (pc := 13) (v := 64) C dX2_init_13 (by decide) ?_
  refine gc_newai (pc := 15) C 64 q131 (by decide) (by decide) (Nat.le_of_ble_eq_true rfl) (Nat.le_of_ble_eq_true rfl) (Nat.le_of_ble_eq_true rfl) dX2_init_15 fun q_2 => ?_
  refine gc_cast (ws2 := [(a, .inr (2, [.ref q_1, .null, .int 0, .int 0, .int 0, .int 0, .int 0, .int 0, .int 0, .int 0, .int 0])), (q_1, .inl (cI, 64, .inl (fun _ => 0))), (q_2, .inl (cI, 64, .inl (fun _ => 0)))]) rfl (a1 := 2) (a2 := 128) rfl rfl ?_
  refine gc_putF (pc := 17) (ws2 := [(a, .inr (2, [.ref q_1, .ref q_2, .int 0, .int 0, .int 0, .int 0, .int 0, .int 0, .int 0, .int 0, .int 0])), (q_1, .inl (cI, 64, .inl (fun _ => 0))), (q_2, .inl (cI, 64, .inl (fun _ => 0)))]) C 0 rfl rfl inX2 1 (by decide) rfl rfl q159 tyX2 tyX2_ok nmX2 rfl rfl rfl (Nat.le_of_ble_eq_true rfl) rfl dX2_init_17 ?_
  refine gc_aload_n (pc := 20) C dX2_init_20 (i := 0) rfl 0 rfl ?_
  refine gc_iconst (pc := 21) (v := -1) C dX2_init_21 (by decide) ?_
  refine gc_put (pc := 22) (ws2 := [(a, .inr (2, [.ref q_1, .ref q_2, .int 0, .int 0, .int 0, .int 0, .int 0, .int (-1), .int 0, .int 0, .int 0])), (q_1, .inl (cI, 64, .inl (fun _ => 0))), (q_2, .inl (cI, 64, .inl (fun _ => 0)))]) C 0 rfl rfl inX2 7 (by decide) rfl q165 tyX2 tyX2_ok nmX2 rfl rfl rfl (Nat.le_of_ble_eq_true rfl) rfl dX2_init_22 ?_
  refine gc_aload_n (pc := 25) C dX2_init_25 (i := 0) rfl 0 rfl ?_
  refine gc_iconst (pc := 26) (v := -1) C dX2_init_26 (by decide) ?_
  refine gc_put (pc := 27) (ws2 := [(a, .inr (2, [.ref q_1, .ref q_2, .int 0, .int 0, .int 0, .int 0, .int 0, .int (-1), .int (-1), .int 0, .int 0])), (q_1, .inl (cI, 64, .inl (fun _ => 0))), (q_2, .inl (cI, 64, .inl (fun _ => 0)))]) C 0 rfl rfl inX2 8 (by decide) rfl q166 tyX2 tyX2_ok nmX2 rfl rfl rfl (Nat.le_of_ble_eq_true rfl) rfl dX2_init_27 ?_
  refine gc_aload_n (pc := 30) C dX2_init_30 (i := 0) rfl 0 rfl ?_
  refine gc_iconst (pc := 31) (v := -1) C dX2_init_31 (by decide) ?_
  refine gc_put (pc := 32) (ws2 := [(a, .inr (2, [.ref q_1, .ref q_2, .int 0, .int 0, .int 0, .int 0, .int 0, .int (-1), .int (-1), .int (-1), .int 0])), (q_1, .inl (cI, 64, .inl (fun _ => 0))), (q_2, .inl (cI, 64, .inl (fun _ => 0)))]) C 0 rfl rfl inX2 9 (by decide) rfl q167 tyX2 tyX2_ok nmX2 rfl rfl rfl (Nat.le_of_ble_eq_true rfl) rfl dX2_init_32 ?_
  refine gc_aload_n (pc := 35) C dX2_init_35 (i := 0) rfl 0 rfl ?_
  refine gc_iconst (pc := 36) (v := -1) C dX2_init_36 (by decide) ?_
  refine gc_put (pc := 37) (ws2 := [(a, .inr (2, [.ref q_1, .ref q_2, .int 0, .int 0, .int 0, .int 0, .int 0, .int (-1), .int (-1), .int (-1), .int (-1)])), (q_1, .inl (cI, 64, .inl (fun _ => 0))), (q_2, .inl (cI, 64, .inl (fun _ => 0)))]) C 0 rfl rfl inX2 10 (by decide) rfl q168 tyX2 tyX2_ok nmX2 rfl rfl rfl (Nat.le_of_ble_eq_true rfl) rfl dX2_init_37 ?_
  refine gc_cast (ws2 := (fun q : Nat → Nat => ([(a, .inr (2, [.ref (q 0), .ref (q 1), .int 0, .int 0, .int 0, .int 0, .int 0, .int (-1), .int (-1), .int (-1), .int (-1)])), ((q 0), .inl (cI, 64, .inl (fun _ => 0))), ((q 1), .inl (cI, 64, .inl (fun _ => 0)))] : va_W)) (fun k => [q_1, q_2].getD k 0)) rfl (a1 := 2) (a2 := 128) rfl rfl ?_
  exact gc_vret (pc := 40) (wo := fun q : Nat → Nat => ([(a, .inr (2, [.ref (q 0), .ref (q 1), .int 0, .int 0, .int 0, .int 0, .int 0, .int (-1), .int (-1), .int (-1), .int (-1)])), ((q 0), .inl (cI, 64, .inl (fun _ => 0))), ((q 1), .inl (cI, 64, .inl (fun _ => 0)))] : va_W)) C hr (fun k => [q_1, q_2].getD k 0) trivial dX2_init_40
set_option maxRecDepth 20000 in
theorem c_X3_init {l : Launch} {D : va_G} {cI cJ cZ : ClassId} {a : Nat} : CtC (V := Nat → Nat) l yX3_init cX3_init 1 ({ frames := 1, cells := 4, slots := 1643, locals := 12 } : Room) D cI cJ cZ 4 1643 (fun _ => True) a (.inr (3, [.null, .null, .null, .null])) (fun q : Nat → Nat => [(a, .inr (3, [.ref (q 0), .ref (q 1), .ref (q 2), .ref (q 3)])), ((q 0), .inl (cI, 3, .inl (upd (upd (upd (fun _ => 0) 0 1000) 1 1000) 2 1000))), ((q 1), .inl (cI, 3, .inl (upd (upd (upd (fun _ => 0) 0 10) 1 20) 2 30))), ((q 2), .inl (cI, 12, .inl (fun _ => 0))), ((q 3), .inl (cI, 1625, .inl (fun _ => 0)))]) := by
  refine CtC.of (by decide +kernel) rfl (Nat.le_of_ble_eq_true rfl) (fun p e s m args below meth c C hr => ?_)
  refine gc_aload_n (pc := 0) C dX3_init_0 (i := 0) rfl 0 rfl ?_
  refine gc_obj (pc := 1) C q197 q89 dX3_init_1 (Nat.le_of_ble_eq_true rfl) (Nat.le_of_ble_eq_true rfl) ?_
  refine gc_aload_n (pc := 4) C dX3_init_4 (i := 0) rfl 0 rfl ?_
  refine gc_iconst (pc := 5) (v := 3) C dX3_init_5 (by decide) ?_
  refine gc_newai (pc := 6) C 3 q131 (by decide) (by decide) (Nat.le_of_ble_eq_true rfl) (Nat.le_of_ble_eq_true rfl) (Nat.le_of_ble_eq_true rfl) dX3_init_6 fun q_1 => ?_
  refine gc_cast (ws2 := [(a, .inr (3, [.null, .null, .null, .null])), (q_1, .inl (cI, 3, .inl (fun _ => 0)))]) rfl (a1 := 1) (a2 := 3) rfl rfl ?_
  refine gc_dup (pc := 8) C dX3_init_8 rfl ?_
  refine gc_iconst (pc := 9) (v := 0) C dX3_init_9 (by decide) ?_
  refine gc_sipush (pc := 10) (v := 1000) C dX3_init_10 (by decide) ?_
  refine gc_iast (pc := 13) (ws2 := [(a, .inr (3, [.null, .null, .null, .null])), (q_1, .inl (cI, 3, .inl (upd (fun _ => 0) 0 1000)))]) C 1 rfl 0 (by rw [vp_in_iff]; decide) (by decide) rfl dX3_init_13 ?_
  refine gc_dup (pc := 14) C dX3_init_14 rfl ?_
  refine gc_iconst (pc := 15) (v := 1) C dX3_init_15 (by decide) ?_
  refine gc_sipush (pc := 16) (v := 1000) C dX3_init_16 (by decide) ?_
  refine gc_iast (pc := 19) (ws2 := [(a, .inr (3, [.null, .null, .null, .null])), (q_1, .inl (cI, 3, .inl (upd (upd (fun _ => 0) 0 1000) 1 1000)))]) C 1 rfl 1 (by rw [vp_in_iff]; decide) (by decide) rfl dX3_init_19 ?_
  refine gc_dup (pc := 20) C dX3_init_20 rfl ?_
  refine gc_iconst (pc := 21) (v := 2) C dX3_init_21 (by decide) ?_
  refine gc_sipush (pc := 22) (v := 1000) C dX3_init_22 (by decide) ?_
  refine gc_iast (pc := 25) (ws2 := [(a, .inr (3, [.null, .null, .null, .null])), (q_1, .inl (cI, 3, .inl (upd (upd (upd (fun _ => 0) 0 1000) 1 1000) 2 1000)))]) C 1 rfl 2 (by rw [vp_in_iff]; decide) (by decide) rfl dX3_init_25 ?_
  refine gc_putF (pc := 26) (ws2 := [(a, .inr (3, [.ref q_1, .null, .null, .null])), (q_1, .inl (cI, 3, .inl (upd (upd (upd (fun _ => 0) 0 1000) 1 1000) 2 1000)))]) C 0 rfl rfl inX3 0 (by decide) rfl rfl q198 tyX3 tyX3_ok nmX3 rfl rfl rfl (Nat.le_of_ble_eq_true rfl) rfl dX3_init_26 ?_
  refine gc_aload_n (pc := 29) C dX3_init_29 (i := 0) rfl 0 rfl ?_
  refine gc_iconst (pc := 30) (v := 3) C dX3_init_30 (by decide) ?_
  refine gc_newai (pc := 31) C 3 q131 (by decide) (by decide) (Nat.le_of_ble_eq_true rfl) (Nat.le_of_ble_eq_true rfl) (Nat.le_of_ble_eq_true rfl) dX3_init_31 fun q_2 => ?_
  refine gc_cast (ws2 := [(a, .inr (3, [.ref q_1, .null, .null, .null])), (q_1, .inl (cI, 3, .inl (upd (upd (upd (fun _ => 0) 0 1000) 1 1000) 2 1000))), (q_2, .inl (cI, 3, .inl (fun _ => 0)))]) rfl (a1 := 2) (a2 := 6) rfl rfl ?_
  refine gc_dup (pc := 33) C dX3_init_33 rfl ?_
  refine gc_iconst (pc := 34) (v := 0) C dX3_init_34 (by decide) ?_
  refine gc_bipush (pc := 35) (v := 10) C dX3_init_35 (by decide) ?_
  refine gc_iast (pc := 37) (ws2 := [(a, .inr (3, [.ref q_1, .null, .null, .null])), (q_1, .inl (cI, 3, .inl (upd (upd (upd (fun _ => 0) 0 1000) 1 1000) 2 1000))), (q_2, .inl (cI, 3, .inl (upd (fun _ => 0) 0 10)))]) C 2 rfl 0 (by rw [vp_in_iff]; decide) (by decide) rfl dX3_init_37 ?_
  refine gc_dup (pc := 38) C dX3_init_38 rfl ?_
  refine gc_iconst (pc := 39) (v := 1) C dX3_init_39 (by decide) ?_
  refine gc_bipush (pc := 40) (v := 20) C dX3_init_40 (by decide) ?_
  refine gc_iast (pc := 42) (ws2 := [(a, .inr (3, [.ref q_1, .null, .null, .null])), (q_1, .inl (cI, 3, .inl (upd (upd (upd (fun _ => 0) 0 1000) 1 1000) 2 1000))), (q_2, .inl (cI, 3, .inl (upd (upd (fun _ => 0) 0 10) 1 20)))]) C 2 rfl 1 (by rw [vp_in_iff]; decide) (by decide) rfl dX3_init_42 ?_
  refine gc_dup (pc := 43) C dX3_init_43 rfl ?_
  refine gc_iconst (pc := 44) (v := 2) C dX3_init_44 (by decide) ?_
  refine gc_bipush (pc := 45) (v := 30) C dX3_init_45 (by decide) ?_
  refine gc_iast (pc := 47) (ws2 := [(a, .inr (3, [.ref q_1, .null, .null, .null])), (q_1, .inl (cI, 3, .inl (upd (upd (upd (fun _ => 0) 0 1000) 1 1000) 2 1000))), (q_2, .inl (cI, 3, .inl (upd (upd (upd (fun _ => 0) 0 10) 1 20) 2 30)))]) C 2 rfl 2 (by rw [vp_in_iff]; decide) (by decide) rfl dX3_init_47 ?_
  refine gc_putF (pc := 48) (ws2 := [(a, .inr (3, [.ref q_1, .ref q_2, .null, .null])), (q_1, .inl (cI, 3, .inl (upd (upd (upd (fun _ => 0) 0 1000) 1 1000) 2 1000))), (q_2, .inl (cI, 3, .inl (upd (upd (upd (fun _ => 0) 0 10) 1 20) 2 30)))]) C 0 rfl rfl inX3 1 (by decide) rfl rfl q199 tyX3 tyX3_ok nmX3 rfl rfl rfl (Nat.le_of_ble_eq_true rfl) rfl dX3_init_48 ?_
  refine gc_aload_n (pc := 51) C dX3_init_51 (i := 0) rfl 0 rfl ?_
  refine gc_bipush (pc := 52) (v := 12) C dX3_init_52 (by decide) ?_
  refine gc_newai (pc := 54) C 12 q131 (by decide) (by decide) (Nat.le_of_ble_eq_true rfl) (Nat.le_of_ble_eq_true rfl) (Nat.le_of_ble_eq_true rfl) dX3_init_54 fun q_3 => ?_
  refine gc_cast (ws2 := [(a, .inr (3, [.ref q_1, .ref q_2, .null, .null])), (q_1, .inl (cI, 3, .inl (upd (upd (upd (fun _ => 0) 0 1000) 1 1000) 2 1000))), (q_2, .inl (cI, 3, .inl (upd (upd (upd (fun _ => 0) 0 10) 1 20) 2 30))), (q_3, .inl (cI, 12, .inl (fun _ => 0)))]) rfl (a1 := 3) (a2 := 18) rfl rfl ?_
  refine gc_putF (pc := 56) (ws2 := [(a, .inr (3, [.ref q_1, .ref q_2, .ref q_3, .null])), (q_1, .inl (cI, 3, .inl (upd (upd (upd (fun _ => 0) 0 1000) 1 1000) 2 1000))), (q_2, .inl (cI, 3, .inl (upd (upd (upd (fun _ => 0) 0 10) 1 20) 2 30))), (q_3, .inl (cI, 12, .inl (fun _ => 0)))]) C 0 rfl rfl inX3 2 (by decide) rfl rfl q200 tyX3 tyX3_ok nmX3 rfl rfl rfl (Nat.le_of_ble_eq_true rfl) rfl dX3_init_56 ?_
  refine gc_aload_n (pc := 59) C dX3_init_59 (i := 0) rfl 0 rfl ?_
  refine gc_sipush (pc := 60) (v := 1625) C dX3_init_60 (by decide) ?_
  refine gc_newai (pc := 63) C 1625 q131 (by decide) (by decide) (Nat.le_of_ble_eq_true rfl) (Nat.le_of_ble_eq_true rfl) (Nat.le_of_ble_eq_true rfl) dX3_init_63 fun q_4 => ?_
  refine gc_cast (ws2 := [(a, .inr (3, [.ref q_1, .ref q_2, .ref q_3, .null])), (q_1, .inl (cI, 3, .inl (upd (upd (upd (fun _ => 0) 0 1000) 1 1000) 2 1000))), (q_2, .inl (cI, 3, .inl (upd (upd (upd (fun _ => 0) 0 10) 1 20) 2 30))), (q_3, .inl (cI, 12, .inl (fun _ => 0))), (q_4, .inl (cI, 1625, .inl (fun _ => 0)))]) rfl (a1 := 4) (a2 := 1643) rfl rfl ?_
  refine gc_putF (pc := 65) (ws2 := [(a, .inr (3, [.ref q_1, .ref q_2, .ref q_3, .ref q_4])), (q_1, .inl (cI, 3, .inl (upd (upd (upd (fun _ => 0) 0 1000) 1 1000) 2 1000))), (q_2, .inl (cI, 3, .inl (upd (upd (upd (fun _ => 0) 0 10) 1 20) 2 30))), (q_3, .inl (cI, 12, .inl (fun _ => 0))), (q_4, .inl (cI, 1625, .inl (fun _ => 0)))]) C 0 rfl rfl inX3 3 (by decide) rfl rfl q201 tyX3 tyX3_ok nmX3 rfl rfl rfl (Nat.le_of_ble_eq_true rfl) rfl dX3_init_65 ?_
  refine gc_cast (ws2 := (fun q : Nat → Nat => ([(a, .inr (3, [.ref (q 0), .ref (q 1), .ref (q 2), .ref (q 3)])), ((q 0), .inl (cI, 3, .inl (upd (upd (upd (fun _ => 0) 0 1000) 1 1000) 2 1000))), ((q 1), .inl (cI, 3, .inl (upd (upd (upd (fun _ => 0) 0 10) 1 20) 2 30))), ((q 2), .inl (cI, 12, .inl (fun _ => 0))), ((q 3), .inl (cI, 1625, .inl (fun _ => 0)))] : va_W)) (fun k => [q_1, q_2, q_3, q_4].getD k 0)) rfl (a1 := 4) (a2 := 1643) rfl rfl ?_
  exact gc_vret (pc := 68) (wo := fun q : Nat → Nat => ([(a, .inr (3, [.ref (q 0), .ref (q 1), .ref (q 2), .ref (q 3)])), ((q 0), .inl (cI, 3, .inl (upd (upd (upd (fun _ => 0) 0 1000) 1 1000) 2 1000))), ((q 1), .inl (cI, 3, .inl (upd (upd (upd (fun _ => 0) 0 10) 1 20) 2 30))), ((q 2), .inl (cI, 12, .inl (fun _ => 0))), ((q 3), .inl (cI, 1625, .inl (fun _ => 0)))] : va_W)) C hr (fun k => [q_1, q_2, q_3, q_4].getD k 0) trivial dX3_init_68
set_option maxRecDepth 20000 in
theorem c_X0_init {l : Launch} {D : va_G} {cI cJ cZ : ClassId} {a : Nat} : CtC (V := Nat → Nat) l yX0_init cX0_init 1 ({ frames := 1, cells := 1, slots := 13, locals := 12 } : Room) D cI cJ cZ 1 13 (fun _ => True) a (.inr (0, [.null, .long 0, .long 0])) (fun q : Nat → Nat => [(a, .inr (0, [.ref (q 0), .long 0, .long 1])), ((q 0), .inl (cJ, 13, .inr (.inl (fun _ => 0))))]) := by
  refine CtC.of (by decide +kernel) rfl (Nat.le_of_ble_eq_true rfl) (fun p e s m args below meth c C hr => ?_)
  refine gc_aload_n (pc := 0) C dX0_init_0 (i := 0) rfl 0 rfl ?_
  refine gc_obj (pc := 1) C q216 q89 dX0_init_1 (Nat.le_of_ble_eq_true rfl) (Nat.le_of_ble_eq_true rfl) ?_
  refine gc_aload_n (pc := 4) C dX0_init_4 (i := 0) rfl 0 rfl ?_
  refine gc_bipush (pc := 5) (v := 13) C dX0_init_5 (by decide) ?_
  refine gc_newal (pc := 7) C 13 q227 (by decide) (by decide) (Nat.le_of_ble_eq_true rfl) (Nat.le_of_ble_eq_true rfl) (Nat.le_of_ble_eq_true rfl) dX0_init_7 fun q_1 => ?_
  refine gc_cast (ws2 := [(a, .inr (0, [.null, .long 0, .long 0])), (q_1, .inl (cJ, 13, .inr (.inl (fun _ => 0))))]) rfl (a1 := 1) (a2 := 13) rfl rfl ?_
  refine gc_putF (pc := 9) (ws2 := [(a, .inr (0, [.ref q_1, .long 0, .long 0])), (q_1, .inl (cJ, 13, .inr (.inl (fun _ => 0))))]) C 0 rfl rfl inX0 0 (by decide) rfl rfl q217 tyX0 tyX0_ok nmX0 rfl rfl rfl (Nat.le_of_ble_eq_true rfl) rfl dX0_init_9 ?_
  refine gc_aload_n (pc := 12) C dX0_init_12 (i := 0) rfl 0 rfl ?_
  refine gc_lconst (pc := 13) (v := 1) C dX0_init_13 rfl ?_
  refine gc_put (pc := 14) (ws2 := [(a, .inr (0, [.ref q_1, .long 0, .long 1])), (q_1, .inl (cJ, 13, .inr (.inl (fun _ => 0))))]) C 0 rfl rfl inX0 2 (by decide) rfl q219 tyX0 tyX0_ok nmX0 rfl rfl rfl (Nat.le_of_ble_eq_true rfl) rfl dX0_init_14 ?_
  refine gc_cast (ws2 := (fun q : Nat → Nat => ([(a, .inr (0, [.ref (q 0), .long 0, .long 1])), ((q 0), .inl (cJ, 13, .inr (.inl (fun _ => 0))))] : va_W)) (fun k => [q_1].getD k 0)) rfl (a1 := 1) (a2 := 13) rfl rfl ?_
  exact gc_vret (pc := 17) (wo := fun q : Nat → Nat => ([(a, .inr (0, [.ref (q 0), .long 0, .long 1])), ((q 0), .inl (cJ, 13, .inr (.inl (fun _ => 0))))] : va_W)) C hr (fun k => [q_1].getD k 0) trivial dX0_init_17
set_option maxRecDepth 20000 in
theorem c_X4_init {l : Launch} {D : va_G} {cI cJ cZ : ClassId} {a : Nat} : CtC (V := Nat → Nat) l yX4_init cX4_init 1 ({ frames := 1, cells := 3, slots := 200, locals := 12 } : Room) D cI cJ cZ 3 200 (fun _ => True) a (.inr (4, [.null, .null, .null])) (fun q : Nat → Nat => [(a, .inr (4, [.ref (q 0), .ref (q 1), .ref (q 2)])), ((q 0), .inl (cI, 192, .inl (fun _ => 0))), ((q 1), .inl (cI, 4, .inl (fun _ => 0))), ((q 2), .inl (cI, 4, .inl (upd (upd (upd (upd (fun _ => 0) 0 (-1)) 1 (-1)) 2 (-1)) 3 (-1))))]) := by
  refine CtC.of (by decide +kernel) rfl (Nat.le_of_ble_eq_true rfl) (fun p e s m args below meth c C hr => ?_)
  refine gc_aload_n (pc := 0) C dX4_init_0 (i := 0) rfl 0 rfl ?_
  refine gc_obj (pc := 1) C q233 q89 dX4_init_1 (Nat.le_of_ble_eq_true rfl) (Nat.le_of_ble_eq_true rfl) ?_
  refine gc_aload_n (pc := 4) C dX4_init_4 (i := 0) rfl 0 rfl ?_
  refine gc_sipush (pc := 5) (v := 192) C dX4_init_5 (by decide) ?_
  refine gc_newai (pc := 8) C 192 q131 (by decide) (by decide) (Nat.le_of_ble_eq_true rfl) (Nat.le_of_ble_eq_true rfl) (Nat.le_of_ble_eq_true rfl) dX4_init_8 fun q_1 => ?_
  refine gc_cast (ws2 := [(a, .inr (4, [.null, .null, .null])), (q_1, .inl (cI, 192, .inl (fun _ => 0)))]) rfl (a1 := 1) (a2 := 192) rfl rfl ?_
  refine gc_putF (pc := 10) (ws2 := [(a, .inr (4, [.ref q_1, .null, .null])), (q_1, .inl (cI, 192, .inl (fun _ => 0)))]) C 0 rfl rfl inX4 0 (by decide) rfl rfl q234 tyX4 tyX4_ok nmX4 rfl rfl rfl (Nat.le_of_ble_eq_true rfl) rfl dX4_init_10 ?_
  refine gc_aload_n (pc := 13) C dX4_init_13 (i := 0) rfl 0 rfl ?_
  refine gc_iconst (pc := 14) (v := 4) C dX4_init_14 (by decide) ?_
  refine gc_newai (pc := 15) C 4 q131 (by decide) (by decide) (Nat.le_of_ble_eq_true rfl) (Nat.le_of_ble_eq_true rfl) (Nat.le_of_ble_eq_true rfl) dX4_init_15 fun q_2 => ?_
  refine gc_cast (ws2 := [(a, .inr (4, [.ref q_1, .null, .null])), (q_1, .inl (cI, 192, .inl (fun _ => 0))), (q_2, .inl (cI, 4, .inl (fun _ => 0)))]) rfl (a1 := 2) (a2 := 196) rfl rfl ?_
  refine gc_putF (pc := 17) (ws2 := [(a, .inr (4, [.ref q_1, .ref q_2, .null])), (q_1, .inl (cI, 192, .inl (fun _ => 0))), (q_2, .inl (cI, 4, .inl (fun _ => 0)))]) C 0 rfl rfl inX4 1 (by decide) rfl rfl q235 tyX4 tyX4_ok nmX4 rfl rfl rfl (Nat.le_of_ble_eq_true rfl) rfl dX4_init_17 ?_
  refine gc_aload_n (pc := 20) C dX4_init_20 (i := 0) rfl 0 rfl ?_
  refine gc_iconst (pc := 21) (v := 4) C dX4_init_21 (by decide) ?_
  refine gc_newai (pc := 22) C 4 q131 (by decide) (by decide) (Nat.le_of_ble_eq_true rfl) (Nat.le_of_ble_eq_true rfl) (Nat.le_of_ble_eq_true rfl) dX4_init_22 fun q_3 => ?_
  refine gc_cast (ws2 := [(a, .inr (4, [.ref q_1, .ref q_2, .null])), (q_1, .inl (cI, 192, .inl (fun _ => 0))), (q_2, .inl (cI, 4, .inl (fun _ => 0))), (q_3, .inl (cI, 4, .inl (fun _ => 0)))]) rfl (a1 := 3) (a2 := 200) rfl rfl ?_
  refine gc_dup (pc := 24) C dX4_init_24 rfl ?_
  refine gc_iconst (pc := 25) (v := 0) C dX4_init_25 (by decide) ?_
  refine gc_iconst (pc := 26) (v := -1) C dX4_init_26 (by decide) ?_
  refine gc_iast (pc := 27) (ws2 := [(a, .inr (4, [.ref q_1, .ref q_2, .null])), (q_1, .inl (cI, 192, .inl (fun _ => 0))), (q_2, .inl (cI, 4, .inl (fun _ => 0))), (q_3, .inl (cI, 4, .inl (upd (fun _ => 0) 0 (-1))))]) C 3 rfl 0 (by rw [vp_in_iff]; decide) (by decide) rfl dX4_init_27 ?_
  refine gc_dup (pc := 28) C dX4_init_28 rfl ?_
  refine gc_iconst (pc := 29) (v := 1) C dX4_init_29 (by decide) ?_
  refine gc_iconst (pc := 30) (v := -1) C dX4_init_30 (by decide) ?_
  refine gc_iast (pc := 31) (ws2 := [(a, .inr (4, [.ref q_1, .ref q_2, .null])), (q_1, .inl (cI, 192, .inl (fun _ => 0))), (q_2, .inl (cI, 4, .inl (fun _ => 0))), (q_3, .inl (cI, 4, .inl (upd (upd (fun _ => 0) 0 (-1)) 1 (-1))))]) C 3 rfl 1 (by rw [vp_in_iff]; decide) (by decide) rfl dX4_init_31 ?_
  refine gc_dup (pc := 32) C dX4_init_32 rfl ?_
  refine gc_iconst (pc := 33) (v := 2) C dX4_init_33 (by decide) ?_
  refine gc_iconst (pc := 34) (v := -1) C dX4_init_34 (by decide) ?_
  refine gc_iast (pc := 35) (ws2 := [(a, .inr (4, [.ref q_1, .ref q_2, .null])), (q_1, .inl (cI, 192, .inl (fun _ => 0))), (q_2, .inl (cI, 4, .inl (fun _ => 0))), (q_3, .inl (cI, 4, .inl (upd (upd (upd (fun _ => 0) 0 (-1)) 1 (-1)) 2 (-1))))]) C 3 rfl 2 (by rw [vp_in_iff]; decide) (by decide) rfl dX4_init_35 ?_
  refine gc_dup (pc := 36) C dX4_init_36 rfl ?_
  refine gc_iconst (pc := 37) (v := 3) C dX4_init_37 (by decide) ?_
  refine gc_iconst (pc := 38) (v := -1) C dX4_init_38 (by decide) ?_
  refine gc_iast (pc := 39) (ws2 := [(a, .inr (4, [.ref q_1, .ref q_2, .null])), (q_1, .inl (cI, 192, .inl (fun _ => 0))), (q_2, .inl (cI, 4, .inl (fun _ => 0))), (q_3, .inl (cI, 4, .inl (upd (upd (upd (upd (fun _ => 0) 0 (-1)) 1 (-1)) 2 (-1)) 3 (-1))))]) C 3 rfl 3 (by rw [vp_in_iff]; decide) (by decide) rfl dX4_init_39 ?_
  refine gc_putF (pc := 40) (ws2 := [(a, .inr (4, [.ref q_1, .ref q_2, .ref q_3])), (q_1, .inl (cI, 192, .inl (fun _ => 0))), (q_2, .inl (cI, 4, .inl (fun _ => 0))), (q_3, .inl (cI, 4, .inl (upd (upd (upd (upd (fun _ => 0) 0 (-1)) 1 (-1)) 2 (-1)) 3 (-1))))]) C 0 rfl rfl inX4 2 (by decide) rfl rfl q236 tyX4 tyX4_ok nmX4 rfl rfl rfl (Nat.le_of_ble_eq_true rfl) rfl dX4_init_40 ?_
  refine gc_cast (ws2 := (fun q : Nat → Nat => ([(a, .inr (4, [.ref (q 0), .ref (q 1), .ref (q 2)])), ((q 0), .inl (cI, 192, .inl (fun _ => 0))), ((q 1), .inl (cI, 4, .inl (fun _ => 0))), ((q 2), .inl (cI, 4, .inl (upd (upd (upd (upd (fun _ => 0) 0 (-1)) 1 (-1)) 2 (-1)) 3 (-1))))] : va_W)) (fun k => [q_1, q_2, q_3].getD k 0)) rfl (a1 := 3) (a2 := 200) rfl rfl ?_
  exact gc_vret (pc := 43) (wo := fun q : Nat → Nat => ([(a, .inr (4, [.ref (q 0), .ref (q 1), .ref (q 2)])), ((q 0), .inl (cI, 192, .inl (fun _ => 0))), ((q 1), .inl (cI, 4, .inl (fun _ => 0))), ((q 2), .inl (cI, 4, .inl (upd (upd (upd (upd (fun _ => 0) 0 (-1)) 1 (-1)) 2 (-1)) 3 (-1))))] : va_W)) C hr (fun k => [q_1, q_2, q_3].getD k 0) trivial dX4_init_43
set_option maxRecDepth 20000 in
theorem c_X5_init {l : Launch} {D : va_G} {cI cJ cZ : ClassId} {a : Nat} : CtC (V := Nat → Nat) l yX5_init cX5_init 1 ({ frames := 2, cells := 9, slots := 176, locals := 32 } : Room) D cI cJ cZ 9 176 (fun _ => True) a (.inr (5, [.null, .null, .null, .null, .null, .null])) (fun q : Nat → Nat => [(a, .inr (5, [.ref (q 0), .ref (q 4), .ref (q 5), .ref (q 6), .ref (q 7), .ref (q 8)])), ((q 0), .inr (1, [.ref (q 1), .ref (q 2), .ref (q 3), .int 0, .int 0, .int 0, .int 0, .int (-1)])), ((q 1), .inl (cI, 20, .inl (fun _ => 0))), ((q 2), .inl (cI, 12, .inl (fun _ => 0))), ((q 3), .inl (cI, 12, .inl (fun _ => 0))), ((q 4), .inl (cI, 12, .inl (fun _ => 0))), ((q 5), .inl (cI, 4, .inl (upd (upd (upd (upd (fun _ => 0) 0 90) 1 90) 2 90) 3 90))), ((q 6), .inl (cI, 48, .inl (fun _ => 0))), ((q 7), .inl (cI, 48, .inl (fun _ => 0))), ((q 8), .inl (cI, 12, .inl (fun _ => 0)))]) := by
  refine CtC.of (by decide +kernel) rfl (Nat.le_of_ble_eq_true rfl) (fun p e s m args below meth c C hr => ?_)
  refine gc_aload_n (pc := 0) C dX5_init_0 (i := 0) rfl 0 rfl ?_
  refine gc_obj (pc := 1) C q96 q89 dX5_init_1 (Nat.le_of_ble_eq_true rfl) (Nat.le_of_ble_eq_true rfl) ?_
  refine gc_aload_n (pc := 4) C dX5_init_4 (i := 0) rfl 0 rfl ?_
  refine gc_new (pc := 5) (ci := 1) (fs := [.null, .null, .null, .int 0, .int 0, .int 0, .int 0, .int 0]) C inX1 tyX1 tyX1_ok q97 q98 q73 rfl (fun j hj => by rcases (show j = 0 ∨ j = 1 ∨ j = 2 ∨ j = 3 ∨ j = 4 ∨ j = 5 ∨ j = 6 ∨ j = 7 by omega) with rfl | rfl | rfl | rfl | rfl | rfl | rfl | rfl <;> rfl) (Nat.le_of_ble_eq_true rfl) (Nat.le_of_ble_eq_true rfl) dX5_init_5 fun q_1 => ?_
  refine gc_cast (ws2 := [(a, .inr (5, [.null, .null, .null, .null, .null, .null])), (q_1, .inr (1, [.null, .null, .null, .int 0, .int 0, .int 0, .int 0, .int 0]))]) rfl (a1 := 1) (a2 := 8) rfl rfl ?_
  refine gc_dup (pc := 8) C dX5_init_8 rfl ?_
  refine gc_init (pc := 9) C (c_X1_init (a := q_1)) C.2.2.2.2.2.2.1.2.2.2.1 q100 q73 q101 rfl (by decide +kernel) ⟨Nat.le_of_ble_eq_true rfl, Nat.le_of_ble_eq_true rfl⟩ rfl rfl 1 [0] (wr := [(a, .inr (5, [.null, .null, .null, .null, .null, .null]))]) rfl rfl (by decide) (by decide) (Nat.le_of_ble_eq_true rfl) (Nat.le_of_ble_eq_true rfl) (Nat.le_of_ble_eq_true rfl) dX5_init_9 fun q_2 _ => ?_
  refine gc_cast (ws2 := [(a, .inr (5, [.null, .null, .null, .null, .null, .null])), (q_1, .inr (1, [.ref (q_2 0), .ref (q_2 1), .ref (q_2 2), .int 0, .int 0, .int 0, .int 0, .int (-1)])), ((q_2 0), .inl (cI, 20, .inl (fun _ => 0))), ((q_2 1), .inl (cI, 12, .inl (fun _ => 0))), ((q_2 2), .inl (cI, 12, .inl (fun _ => 0)))]) rfl (a1 := 4) (a2 := 52) rfl rfl ?_
  refine gc_putF (pc := 12) (ws2 := [(a, .inr (5, [.ref q_1, .null, .null, .null, .null, .null])), (q_1, .inr (1, [.ref (q_2 0), .ref (q_2 1), .ref (q_2 2), .int 0, .int 0, .int 0, .int 0, .int (-1)])), ((q_2 0), .inl (cI, 20, .inl (fun _ => 0))), ((q_2 1), .inl (cI, 12, .inl (fun _ => 0))), ((q_2 2), .inl (cI, 12, .inl (fun _ => 0)))]) C 0 rfl rfl inX5 0 (by decide) rfl rfl q132 tyX5 tyX5_ok nmX5 rfl rfl rfl (Nat.le_of_ble_eq_true rfl) rfl dX5_init_12 ?_
  refine gc_aload_n (pc := 15) C dX5_init_15 (i := 0) rfl 0 rfl ?_
  refine gc_bipush (pc := 16) (v := 12) C dX5_init_16 (by decide) ?_
  refine gc_newai (pc := 18) C 12 q131 (by decide) (by decide) (Nat.le_of_ble_eq_true rfl) (Nat.le_of_ble_eq_true rfl) (Nat.le_of_ble_eq_true rfl) dX5_init_18 fun q_3 => ?_
  refine gc_cast (ws2 := [(a, .inr (5, [.ref q_1, .null, .null, .null, .null, .null])), (q_1, .inr (1, [.ref (q_2 0), .ref (q_2 1), .ref (q_2 2), .int 0, .int 0, .int 0, .int 0, .int (-1)])), ((q_2 0), .inl (cI, 20, .inl (fun _ => 0))), ((q_2 1), .inl (cI, 12, .inl (fun _ => 0))), ((q_2 2), .inl (cI, 12, .inl (fun _ => 0))), (q_3, .inl (cI, 12, .inl (fun _ => 0)))]) rfl (a1 := 5) (a2 := 64) rfl rfl ?_
  refine gc_putF (pc := 20) (ws2 := [(a, .inr (5, [.ref q_1, .ref q_3, .null, .null, .null, .null])), (q_1, .inr (1, [.ref (q_2 0), .ref (q_2 1), .ref (q_2 2), .int 0, .int 0, .int 0, .int 0, .int (-1)])), ((q_2 0), .inl (cI, 20, .inl (fun _ => 0))), ((q_2 1), .inl (cI, 12, .inl (fun _ => 0))), ((q_2 2), .inl (cI, 12, .inl (fun _ => 0))), (q_3, .inl (cI, 12, .inl (fun _ => 0)))]) C 0 rfl rfl inX5 1 (by decide) rfl rfl q134 tyX5 tyX5_ok nmX5 rfl rfl rfl (Nat.le_of_ble_eq_true rfl) rfl dX5_init_20 ?_
  refine gc_aload_n (pc := 23) C dX5_init_23 (i := 0) rfl 0 rfl ?_
  refine gc_iconst (pc := 24) (v := 4) C dX5_init_24 (by decide) ?_
  refine gc_newai (pc := 25) C 4 q131 (by decide) (by decide) (Nat.le_of_ble_eq_true rfl) (Nat.le_of_ble_eq_true rfl) (Nat.le_of_ble_eq_true rfl) dX5_init_25 fun q_4 => ?_
  refine gc_cast (ws2 := [(a, .inr (5, [.ref q_1, .ref q_3, .null, .null, .null, .null])), (q_1, .inr (1, [.ref (q_2 0), .ref (q_2 1), .ref (q_2 2), .int 0, .int 0, .int 0, .int 0, .int (-1)])), ((q_2 0), .inl (cI, 20, .inl (fun _ => 0))), ((q_2 1), .inl (cI, 12, .inl (fun _ => 0))), ((q_2 2), .inl (cI, 12, .inl (fun _ => 0))), (q_3, .inl (cI, 12, .inl (fun _ => 0))), (q_4, .inl (cI, 4, .inl (fun _ => 0)))]) rfl (a1 := 6) (a2 := 68) rfl rfl ?_
  refine gc_dup (pc := 27) C dX5_init_27 rfl ?_
  refine gc_iconst (pc := 28) (v := 0) C dX5_init_28 (by decide) ?_
  refine gc_bipush (pc := 29) (v := 90) C dX5_init_29 (by decide) ?_
  refine gc_iast (pc := 31) (ws2 := [(a, .inr (5, [.ref q_1, .ref q_3, .null, .null, .null, .null])), (q_1, .inr (1, [.ref (q_2 0), .ref (q_2 1), .ref (q_2 2), .int 0, .int 0, .int 0, .int 0, .int (-1)])), ((q_2 0), .inl (cI, 20, .inl (fun _ => 0))), ((q_2 1), .inl (cI, 12, .inl (fun _ => 0))), ((q_2 2), .inl (cI, 12, .inl (fun _ => 0))), (q_3, .inl (cI, 12, .inl (fun _ => 0))), (q_4, .inl (cI, 4, .inl (upd (fun _ => 0) 0 90)))]) C 6 rfl 0 (by rw [vp_in_iff]; decide) (by decide) rfl dX5_init_31 ?_
  refine gc_dup (pc := 32) C dX5_init_32 rfl ?_
  refine gc_iconst (pc := 33) (v := 1) C dX5_init_33 (by decide) ?_
  refine gc_bipush (pc := 34) (v := 90) C dX5_init_34 (by decide) ?_
  refine gc_iast (pc := 36) (ws2 := [(a, .inr (5, [.ref q_1, .ref q_3, .null, .null, .null, .null])), (q_1, .inr (1, [.ref (q_2 0), .ref (q_2 1), .ref (q_2 2), .int 0, .int 0, .int 0, .int 0, .int (-1)])), ((q_2 0), .inl (cI, 20, .inl (fun _ => 0))), ((q_2 1), .inl (cI, 12, .inl (fun _ => 0))), ((q_2 2), .inl (cI, 12, .inl (fun _ => 0))), (q_3, .inl (cI, 12, .inl (fun _ => 0))), (q_4, .inl (cI, 4, .inl (upd (upd (fun _ => 0) 0 90) 1 90)))]) C 6 rfl 1 (by rw [vp_in_iff]; decide) (by decide) rfl dX5_init_36 ?_
  refine gc_dup (pc := 37) C dX5_init_37 rfl ?_
  refine gc_iconst (pc := 38) (v := 2) C dX5_init_38 (by decide) ?_
  refine gc_bipush (pc := 39) (v := 90) C dX5_init_39 (by decide) ?_
  refine gc_iast (pc := 41) (ws2 := [(a, .inr (5, [.ref q_1, .ref q_3, .null, .null, .null, .null])), (q_1, .inr (1, [.ref (q_2 0), .ref (q_2 1), .ref (q_2 2), .int 0, .int 0, .int 0, .int 0, .int (-1)])), ((q_2 0), .inl (cI, 20, .inl (fun _ => 0))), ((q_2 1), .inl (cI, 12, .inl (fun _ => 0))), ((q_2 2), .inl (cI, 12, .inl (fun _ => 0))), (q_3, .inl (cI, 12, .inl (fun _ => 0))), (q_4, .inl (cI, 4, .inl (upd (upd (upd (fun _ => 0) 0 90) 1 90) 2 90)))]) C 6 rfl 2 (by rw [vp_in_iff]; decide) (by decide) rfl dX5_init_41 ?_
  refine gc_dup (pc := 42) C dX5_init_42 rfl ?_
  refine gc_iconst (pc := 43) (v := 3) C dX5_init_43 (by decide) ?_
  refine gc_bipush (pc := 44) (v := 90) C dX5_init_44 (by decide) ?_
  refine gc_iast (pc := 46) (ws2 := [(a, .inr (5, [.ref q_1, .ref q_3, .null, .null, .null, .null])), (q_1, .inr (1, [.ref (q_2 0), .ref (q_2 1), .ref (q_2 2), .int 0, .int 0, .int 0, .int 0, .int (-1)])), ((q_2 0), .inl (cI, 20, .inl (fun _ => 0))), ((q_2 1), .inl (cI, 12, .inl (fun _ => 0))), ((q_2 2), .inl (cI, 12, .inl (fun _ => 0))), (q_3, .inl (cI, 12, .inl (fun _ => 0))), (q_4, .inl (cI, 4, .inl (upd (upd (upd (upd (fun _ => 0) 0 90) 1 90) 2 90) 3 90)))]) C 6 rfl 3 (by rw [vp_in_iff]; decide) (by decide) rfl dX5_init_46 ?_
  refine gc_putF (pc := 47) (ws2 := [(a, .inr (5, [.ref q_1, .ref q_3, .ref q_4, .null, .null, .null])), (q_1, .inr (1, [.ref (q_2 0), .ref (q_2 1), .ref (q_2 2), .int 0, .int 0, .int 0, .int 0, .int (-1)])), ((q_2 0), .inl (cI, 20, .inl (fun _ => 0))), ((q_2 1), .inl (cI, 12, .inl (fun _ => 0))), ((q_2 2), .inl (cI, 12, .inl (fun _ => 0))), (q_3, .inl (cI, 12, .inl (fun _ => 0))), (q_4, .inl (cI, 4, .inl (upd (upd (upd (upd (fun _ => 0) 0 90) 1 90) 2 90) 3 90)))]) C 0 rfl rfl inX5 2 (by decide) rfl rfl q135 tyX5 tyX5_ok nmX5 rfl rfl rfl (Nat.le_of_ble_eq_true rfl) rfl dX5_init_47 ?_
  refine gc_aload_n (pc := 50) C dX5_init_50 (i := 0) rfl 0 rfl ?_
  refine gc_bipush (pc := 51) (v := 48) C dX5_init_51 (by decide) ?_
  refine gc_newai (pc := 53) C 48 q131 (by decide) (by decide) (Nat.le_of_ble_eq_true rfl) (Nat.le_of_ble_eq_true rfl) (Nat.le_of_ble_eq_true rfl) dX5_init_53 fun q_5 => ?_
  refine gc_cast (ws2 := [(a, .inr (5, [.ref q_1, .ref q_3, .ref q_4, .null, .null, .null])), (q_1, .inr (1, [.ref (q_2 0), .ref (q_2 1), .ref (q_2 2), .int 0, .int 0, .int 0, .int 0, .int (-1)])), ((q_2 0), .inl (cI, 20, .inl (fun _ => 0))), ((q_2 1), .inl (cI, 12, .inl (fun _ => 0))), ((q_2 2), .inl (cI, 12, .inl (fun _ => 0))), (q_3, .inl (cI, 12, .inl (fun _ => 0))), (q_4, .inl (cI, 4, .inl (upd (upd (upd (upd (fun _ => 0) 0 90) 1 90) 2 90) 3 90))), (q_5, .inl (cI, 48, .inl (fun _ => 0)))]) rfl (a1 := 7) (a2 := 116) rfl rfl ?_
  refine gc_putF (pc := 55) (ws2 := [(a, .inr (5, [.ref q_1, .ref q_3, .ref q_4, .ref q_5, .null, .null])), (q_1, .inr (1, [.ref (q_2 0), .ref (q_2 1), .ref (q_2 2), .int 0, .int 0, .int 0, .int 0, .int (-1)])), ((q_2 0), .inl (cI, 20, .inl (fun _ => 0))), ((q_2 1), .inl (cI, 12, .inl (fun _ => 0))), ((q_2 2), .inl (cI, 12, .inl (fun _ => 0))), (q_3, .inl (cI, 12, .inl (fun _ => 0))), (q_4, .inl (cI, 4, .inl (upd (upd (upd (upd (fun _ => 0) 0 90) 1 90) 2 90) 3 90))), (q_5, .inl (cI, 48, .inl (fun _ => 0)))]) C 0 rfl rfl inX5 3 (by decide) rfl rfl q136 tyX5 tyX5_ok nmX5 rfl rfl rfl (Nat.le_of_ble_eq_true rfl) rfl dX5_init_55 ?_
  refine gc_aload_n (pc := 58) C dX5_init_58 (i := 0) rfl 0 rfl ?_
  refine gc_bipush (pc := 59) (v := 48) C dX5_init_59 (by decide) ?_
  refine gc_newai (pc := 61) C 48 q131 (by decide) (by decide) (Nat.le_of_ble_eq_true rfl) (Nat.le_of_ble_eq_true rfl) (Nat.le_of_ble_eq_true rfl) dX5_init_61 fun q_6 => ?_
  refine gc_cast (ws2 := [(a, .inr (5, [.ref q_1, .ref q_3, .ref q_4, .ref q_5, .null, .null])), (q_1, .inr (1, [.ref (q_2 0), .ref (q_2 1), .ref (q_2 2), .int 0, .int 0, .int 0, .int 0, .int (-1)])), ((q_2 0), .inl (cI, 20, .inl (fun _ => 0))), ((q_2 1), .inl (cI, 12, .inl (fun _ => 0))), ((q_2 2), .inl (cI, 12, .inl (fun _ => 0))), (q_3, .inl (cI, 12, .inl (fun _ => 0))), (q_4, .inl (cI, 4, .inl (upd (upd (upd (upd (fun _ => 0) 0 90) 1 90) 2 90) 3 90))), (q_5, .inl (cI, 48, .inl (fun _ => 0))), (q_6, .inl (cI, 48, .inl (fun _ => 0)))]) rfl (a1 := 8) (a2 := 164) rfl rfl ?_
  refine gc_putF (pc := 63) (ws2 := [(a, .inr (5, [.ref q_1, .ref q_3, .ref q_4, .ref q_5, .ref q_6, .null])), (q_1, .inr (1, [.ref (q_2 0), .ref (q_2 1), .ref (q_2 2), .int 0, .int 0, .int 0, .int 0, .int (-1)])), ((q_2 0), .inl (cI, 20, .inl (fun _ => 0))), ((q_2 1), .inl (cI, 12, .inl (fun _ => 0))), ((q_2 2), .inl (cI, 12, .inl (fun _ => 0))), (q_3, .inl (cI, 12, .inl (fun _ => 0))), (q_4, .inl (cI, 4, .inl (upd (upd (upd (upd (fun _ => 0) 0 90) 1 90) 2 90) 3 90))), (q_5, .inl (cI, 48, .inl (fun _ => 0))), (q_6, .inl (cI, 48, .inl (fun _ => 0)))]) C 0 rfl rfl inX5 4 (by decide) rfl rfl q137 tyX5 tyX5_ok nmX5 rfl rfl rfl (Nat.le_of_ble_eq_true rfl) rfl dX5_init_63 ?_
  refine gc_aload_n (pc := 66) C dX5_init_66 (i := 0) rfl 0 rfl ?_
  refine gc_bipush (pc := 67) (v := 12) C dX5_init_67 (by decide) ?_
  refine gc_newai (pc := 69) C 12 q131 (by decide) (by decide) (Nat.le_of_ble_eq_true rfl) (Nat.le_of_ble_eq_true rfl) (Nat.le_of_ble_eq_true rfl) dX5_init_69 fun q_7 => ?_
  refine gc_cast (ws2 := [(a, .inr (5, [.ref q_1, .ref q_3, .ref q_4, .ref q_5, .ref q_6, .null])), (q_1, .inr (1, [.ref (q_2 0), .ref (q_2 1), .ref (q_2 2), .int 0, .int 0, .int 0, .int 0, .int (-1)])), ((q_2 0), .inl (cI, 20, .inl (fun _ => 0))), ((q_2 1), .inl (cI, 12, .inl (fun _ => 0))), ((q_2 2), .inl (cI, 12, .inl (fun _ => 0))), (q_3, .inl (cI, 12, .inl (fun _ => 0))), (q_4, .inl (cI, 4, .inl (upd (upd (upd (upd (fun _ => 0) 0 90) 1 90) 2 90) 3 90))), (q_5, .inl (cI, 48, .inl (fun _ => 0))), (q_6, .inl (cI, 48, .inl (fun _ => 0))), (q_7, .inl (cI, 12, .inl (fun _ => 0)))]) rfl (a1 := 9) (a2 := 176) rfl rfl ?_
  refine gc_putF (pc := 71) (ws2 := [(a, .inr (5, [.ref q_1, .ref q_3, .ref q_4, .ref q_5, .ref q_6, .ref q_7])), (q_1, .inr (1, [.ref (q_2 0), .ref (q_2 1), .ref (q_2 2), .int 0, .int 0, .int 0, .int 0, .int (-1)])), ((q_2 0), .inl (cI, 20, .inl (fun _ => 0))), ((q_2 1), .inl (cI, 12, .inl (fun _ => 0))), ((q_2 2), .inl (cI, 12, .inl (fun _ => 0))), (q_3, .inl (cI, 12, .inl (fun _ => 0))), (q_4, .inl (cI, 4, .inl (upd (upd (upd (upd (fun _ => 0) 0 90) 1 90) 2 90) 3 90))), (q_5, .inl (cI, 48, .inl (fun _ => 0))), (q_6, .inl (cI, 48, .inl (fun _ => 0))), (q_7, .inl (cI, 12, .inl (fun _ => 0)))]) C 0 rfl rfl inX5 5 (by decide) rfl rfl q138 tyX5 tyX5_ok nmX5 rfl rfl rfl (Nat.le_of_ble_eq_true rfl) rfl dX5_init_71 ?_
  refine gc_cast (ws2 := (fun q : Nat → Nat => ([(a, .inr (5, [.ref (q 0), .ref (q 4), .ref (q 5), .ref (q 6), .ref (q 7), .ref (q 8)])), ((q 0), .inr (1, [.ref (q 1), .ref (q 2), .ref (q 3), .int 0, .int 0, .int 0, .int 0, .int (-1)])), ((q 1), .inl (cI, 20, .inl (fun _ => 0))), ((q 2), .inl (cI, 12, .inl (fun _ => 0))), ((q 3), .inl (cI, 12, .inl (fun _ => 0))), ((q 4), .inl (cI, 12, .inl (fun _ => 0))), ((q 5), .inl (cI, 4, .inl (upd (upd (upd (upd (fun _ => 0) 0 90) 1 90) 2 90) 3 90))), ((q 6), .inl (cI, 48, .inl (fun _ => 0))), ((q 7), .inl (cI, 48, .inl (fun _ => 0))), ((q 8), .inl (cI, 12, .inl (fun _ => 0)))] : va_W)) (fun k => [q_1, (q_2 0), (q_2 1), (q_2 2), q_3, q_4, q_5, q_6, q_7].getD k 0)) rfl (a1 := 9) (a2 := 176) rfl rfl ?_
  exact gc_vret (pc := 74) (wo := fun q : Nat → Nat => ([(a, .inr (5, [.ref (q 0), .ref (q 4), .ref (q 5), .ref (q 6), .ref (q 7), .ref (q 8)])), ((q 0), .inr (1, [.ref (q 1), .ref (q 2), .ref (q 3), .int 0, .int 0, .int 0, .int 0, .int (-1)])), ((q 1), .inl (cI, 20, .inl (fun _ => 0))), ((q 2), .inl (cI, 12, .inl (fun _ => 0))), ((q 3), .inl (cI, 12, .inl (fun _ => 0))), ((q 4), .inl (cI, 12, .inl (fun _ => 0))), ((q 5), .inl (cI, 4, .inl (upd (upd (upd (upd (fun _ => 0) 0 90) 1 90) 2 90) 3 90))), ((q 6), .inl (cI, 48, .inl (fun _ => 0))), ((q 7), .inl (cI, 48, .inl (fun _ => 0))), ((q 8), .inl (cI, 12, .inl (fun _ => 0)))] : va_W)) C hr (fun k => [q_1, (q_2 0), (q_2 1), (q_2 2), q_3, q_4, q_5, q_6, q_7].getD k 0) trivial dX5_init_74
