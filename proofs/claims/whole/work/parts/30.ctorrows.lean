def NXI (U : State) : Prop := NX U ∧ va_Nw (.fieldLinkNest RX6 16 "HillHours$Sun" "ground" "LHillHours$Ground;" "HillHours") U ∧ va_Nw (.methodLinkNest RX6 9 yX5_init "HillHours") U ∧ va_Nw (.methodLinkNest RX5 11 yX1_init "HillHours") U ∧ va_Nw (.methodLinkNest RX6 23 yX2_init "HillHours") U ∧ va_Nw (.methodLinkNest RX6 30 yX3_init "HillHours") U ∧ va_Nw (.methodLinkNest RX6 37 yX0_init "HillHours") U ∧ va_Nw (.methodLinkNest RX6 44 yX4_init "HillHours") U
theorem NXI.warm {s U : State} (hW : s.WarmedH U.vm) (h : NXI s) : NXI U := ⟨h.1.warm hW, h.2.1.warmF hW, h.2.2.1.warmM hW, h.2.2.2.1.warmM hW, h.2.2.2.2.1.warmM hW, h.2.2.2.2.2.1.warmM hW, h.2.2.2.2.2.2.1.warmM hW, h.2.2.2.2.2.2.2.warmM hW⟩
theorem NXI.same {s U : State} (hv : s.vm = U.vm) (h : NXI s) : NXI U := ⟨h.1.same hv, h.2.1.same rfl hv, h.2.2.1.same rfl hv, h.2.2.2.1.same rfl hv, h.2.2.2.2.1.same rfl hv, h.2.2.2.2.2.1.same rfl hv, h.2.2.2.2.2.2.1.same rfl hv, h.2.2.2.2.2.2.2.same rfl hv⟩
set_option maxRecDepth 100000 in
theorem q_objcode : Cond.code Lib.objectInit ⟨#[0xb1]⟩ 1 none ∈ lw_tb := tb1 (List.mem_of_getElem? (i := 20) rfl) rfl
def Cc (p : Program) (s : State) (m : MethodId) (args : Array Value) (meth : Method) (c : Code) (cc : ByteArray) (nL : Nat) (own : String) (D : va_G) (cI cJ cZ : ClassId) (A : Nat → Prop) : Prop :=
  p.tables.exec = Jvm.exec ∧ c.code = cc ∧ c.maxLocals = nL ∧ s.vm.findClass own = some m.cls ∧ (∀ w ∈ lw_tb, w.before args s = true) ∧ va_K D clsX (tyX cI cJ cZ) s ∧ NXI s ∧ (∀ q, s.heap.size ≤ q → A q) ∧ meth.locks = false ∧ meth.name = "<init>"
def GC (p : Program) (l : Launch) (e : Env) (R : Room) (s : State) (m : MethodId) (args : Array Value) (below : List Frame) (meth : Method) (c : Code) (D : va_G) (A : Nat → Prop) (nL : Nat) (Q : State → Prop) (ws : va_W) (k1 k2 pc : Nat) (lv : List (Nat × Value)) (st : List Value) : Prop :=
  ∀ (H : Heap) (locs : List Loc) (ls : Array Slot), va_P D clsX ws H → va_D A ws → va_S A s.heap H locs → lv_has ls nL lv → W p l e R s m args below meth c H locs k1 k2 Q (F0 m pc ls st)
def PC (D : va_G) (cI cJ cZ : ClassId) (a : Nat) (e0 : va_E) (sz : Nat) (U : State) : Prop := U.heap.size = sz ∧ va_P D clsX [(a, e0)] U.heap ∧ va_K D clsX (tyX cI cJ cZ) U ∧ NXI U
/-- a constructor's contract: from the one new cell to the cells that it makes -/
def CtC {V : Type} (l : Launch) (y : MethodName) (bytes : ByteArray) (maxL : Nat) (rm : Room) (D : va_G) (cI cJ cZ : ClassId) (mc ms : Nat) (post : V → Prop) (a : Nat) (e0 : va_E) (wo : V → va_W) : Prop :=
  ∀ sz, Met l y (Cond.code y bytes maxL none :: lw_tb) rm (va_Pc [.ref a] (PC D cI cJ cZ a e0 sz)) (va_Qv post (fun u t => va_P D clsX (wo u) t.heap ∧ va_D (va_A [(a, e0)] sz) (wo u)) (va_A [(a, e0)] sz)) mc ms (va_A [(a, e0)] sz)
def QC {V : Type} (D : va_G) (mc ms : Nat) (post : V → Prop) (wo : V → va_W) (A : Nat → Prop) (args : Array Value) (s : State) (below : List Frame) : State → Prop := MQ below (va_Qv post (fun u t => va_P D clsX (wo u) t.heap ∧ va_D A (wo u)) A) args s mc ms A
theorem oneD {a : Nat} {e0 : va_E} {sz : Nat} : va_D (va_A [(a, e0)] sz) [(a, e0)] := by
  refine ⟨fun i j p q hi hj _ => ?_, fun k q hk => va_A.in hk⟩
  have h1 := (List.getElem?_eq_some_iff.mp hi).1
  have h2 := (List.getElem?_eq_some_iff.mp hj).1
  simp only [List.length_cons, List.length_nil] at h1 h2
  omega
section GCR
variable {p : Program} {l : Launch} {e : Env} {R : Room} {s : State} {m : MethodId} {args : Array Value} {below : List Frame} {meth : Method} {c : Code} {cc : ByteArray} {nL : Nat} {own : String} {D : va_G} {cI cJ cZ : ClassId} {A : Nat → Prop} {Q : State → Prop} {ws : va_W} {k1 k2 pc : Nat} {lv : List (Nat × Value)} {st : List Value}
theorem gc_iconst (C : Cc p s m args meth c cc nL own D cI cJ cZ A) {a : Int} {v : Int32} (hd : decode cc pc = .ok (.iconst a, 1)) (hv : Int32.ofInt a = v) (k : GC p l e R s m args below meth c D A nL Q ws k1 k2 (pc + 1) lv (.int v :: st)) : GC p l e R s m args below meth c D A nL Q ws k1 k2 pc lv (st) :=
  fun H locs ls hP hD hS hl => lv_iconst C.1 C.2.1 hd hv (k H locs ls hP hD hS hl)
theorem gc_bipush (C : Cc p s m args meth c cc nL own D cI cJ cZ A) {a : Int} {v : Int32} (hd : decode cc pc = .ok (.bipush a, 2)) (hv : (Int8.ofInt a).toInt32 = v) (k : GC p l e R s m args below meth c D A nL Q ws k1 k2 (pc + 2) lv (.int v :: st)) : GC p l e R s m args below meth c D A nL Q ws k1 k2 pc lv (st) :=
  fun H locs ls hP hD hS hl => lv_bipush C.1 C.2.1 hd hv (k H locs ls hP hD hS hl)
theorem gc_sipush (C : Cc p s m args meth c cc nL own D cI cJ cZ A) {a : Int} {v : Int32} (hd : decode cc pc = .ok (.sipush a, 3)) (hv : (Int16.ofInt a).toInt32 = v) (k : GC p l e R s m args below meth c D A nL Q ws k1 k2 (pc + 3) lv (.int v :: st)) : GC p l e R s m args below meth c D A nL Q ws k1 k2 pc lv (st) :=
  fun H locs ls hP hD hS hl => lv_sipush C.1 C.2.1 hd hv (k H locs ls hP hD hS hl)
theorem gc_lconst (C : Cc p s m args meth c cc nL own D cI cJ cZ A) {a : Fin 2} {v : Int64} (hd : decode cc pc = .ok (.lconst a, 1)) (hv : Int64.ofNat (a : Nat) = v) (k : GC p l e R s m args below meth c D A nL Q ws k1 k2 (pc + 1) lv (.long v :: st)) : GC p l e R s m args below meth c D A nL Q ws k1 k2 pc lv (st) :=
  fun H locs ls hP hD hS hl => lv_lconst C.1 C.2.1 hd hv (k H locs ls hP hD hS hl)
theorem gc_iload_n (C : Cc p s m args meth c cc nL own D cI cJ cZ A) {j : Fin 4} {i : Nat} {x : Int32} (hd : decode cc pc = .ok (.iload_n j, 1)) (hi : (j : Nat) = i) (q : Nat) (hq : lv[q]? = some (i, .int x)) (k : GC p l e R s m args below meth c D A nL Q ws k1 k2 (pc + 1) lv (.int x :: st)) : GC p l e R s m args below meth c D A nL Q ws k1 k2 pc lv (st) :=
  fun H locs ls hP hD hS hl => lv_iload_n C.1 C.2.1 hd hi (lv_at hl q hq) (k H locs ls hP hD hS hl)
theorem gc_aload_n (C : Cc p s m args meth c cc nL own D cI cJ cZ A) {j : Fin 4} {i : Nat} {x : Nat} (hd : decode cc pc = .ok (.aload_n j, 1)) (hi : (j : Nat) = i) (q : Nat) (hq : lv[q]? = some (i, .ref x)) (k : GC p l e R s m args below meth c D A nL Q ws k1 k2 (pc + 1) lv (.ref x :: st)) : GC p l e R s m args below meth c D A nL Q ws k1 k2 pc lv (st) :=
  fun H locs ls hP hD hS hl => lv_aload_n C.1 C.2.1 hd hi (lv_at hl q hq) (k H locs ls hP hD hS hl)
theorem gc_dup (C : Cc p s m args meth c cc nL own D cI cJ cZ A) {va : Value} (hd : decode cc pc = .ok (.dup, 1)) (hva : va.category = 1) (k : GC p l e R s m args below meth c D A nL Q ws k1 k2 (pc + 1) lv (va :: va :: st)) : GC p l e R s m args below meth c D A nL Q ws k1 k2 pc lv (va :: st) :=
  fun H locs ls hP hD hS hl => lv_dup C.1 C.2.1 hd hva (k H locs ls hP hD hS hl)
theorem gc_iadd (C : Cc p s m args meth c cc nL own D cI cJ cZ A) {x y v : Int32} (hv : x + y = v) (hd : decode cc pc = .ok (.iadd, 1)) (k : GC p l e R s m args below meth c D A nL Q ws k1 k2 (pc + 1) lv (.int v :: st)) : GC p l e R s m args below meth c D A nL Q ws k1 k2 pc lv (.int y :: .int x :: st) := by
  subst hv
  exact fun H locs ls hP hD hS hl => lv_iadd C.1 C.2.1 hd (k H locs ls hP hD hS hl)
theorem gc_imul (C : Cc p s m args meth c cc nL own D cI cJ cZ A) {x y v : Int32} (hv : x * y = v) (hd : decode cc pc = .ok (.imul, 1)) (k : GC p l e R s m args below meth c D A nL Q ws k1 k2 (pc + 1) lv (.int v :: st)) : GC p l e R s m args below meth c D A nL Q ws k1 k2 pc lv (.int y :: .int x :: st) := by
  subst hv
  exact fun H locs ls hP hD hS hl => lv_imul C.1 C.2.1 hd (k H locs ls hP hD hS hl)
theorem gc_istore_n (C : Cc p s m args meth c cc nL own D cI cJ cZ A) {j : Fin 4} {i : Nat} {x : Int32} {lv2 : List (Nat × Value)} (hd : decode cc pc = .ok (.istore_n j, 1)) (hi : (j : Nat) = i) (hn : i < nL) (h2 : (i, Value.int x) :: lv.filter (fun q => !(q.1 == i) && !(q.1 + 1 == i && q.2.category == 2)) = lv2) (k : GC p l e R s m args below meth c D A nL Q ws k1 k2 (pc + 1) lv2 st) : GC p l e R s m args below meth c D A nL Q ws k1 k2 pc lv (.int x :: st) :=
  fun H locs ls hP hD hS hl => lv_istore_n C.1 C.2.1 hd hi hl hn h2 (fun ls2 hl2 => k H locs ls2 hP hD hS hl2)
theorem gc_iinc (C : Cc p s m args meth c cc nL own D cI cJ cZ A) {i : Nat} {a : Int} {x v : Int32} {lv2 : List (Nat × Value)} (hd : decode cc pc = .ok (.iinc i a, 3)) (q : Nat) (hq : lv[q]? = some (i, .int x)) (hv : x + Int32.ofInt a = v) (hn : i < nL) (h2 : (i, Value.int v) :: lv.filter (fun q => !(q.1 == i) && !(q.1 + 1 == i && q.2.category == 2)) = lv2) (k : GC p l e R s m args below meth c D A nL Q ws k1 k2 (pc + 3) lv2 st) : GC p l e R s m args below meth c D A nL Q ws k1 k2 pc lv st :=
  fun H locs ls hP hD hS hl => lv_iinc C.1 C.2.1 hd hl hq hv hn h2 (fun ls2 hl2 => k H locs ls2 hP hD hS hl2)
theorem gc_goto (C : Cc p s m args meth c cc nL own D cI cJ cZ A) {off : Int} {tgt : Nat} (hd : decode cc pc = .ok (.goto off, 3)) (ht : (pc : Int) + off = (tgt : Int)) (k : GC p l e R s m args below meth c D A nL Q ws k1 k2 tgt lv st) : GC p l e R s m args below meth c D A nL Q ws k1 k2 pc lv st :=
  fun H locs ls hP hD hS hl => lv_goto C.1 C.2.1 hd ht (k H locs ls hP hD hS hl)
theorem gc_ge_t (C : Cc p s m args meth c cc nL own D cI cJ cZ A) {x y : Int32} {off : Int} {tgt : Nat} (h : y ≤ x) (hd : decode cc pc = .ok (.if_icmp .ge off, 3)) (ht : (pc : Int) + off = (tgt : Int)) (k : GC p l e R s m args below meth c D A nL Q ws k1 k2 tgt lv st) : GC p l e R s m args below meth c D A nL Q ws k1 k2 pc lv (.int y :: .int x :: st) :=
  fun H locs ls hP hD hS hl => lv_icmp_ge C.1 C.2.1 hd ht (fun _ => k H locs ls hP hD hS hl) (fun g => absurd h g)
theorem gc_ge_f (C : Cc p s m args meth c cc nL own D cI cJ cZ A) {x y : Int32} {off : Int} {tgt : Nat} (h : ¬ y ≤ x) (hd : decode cc pc = .ok (.if_icmp .ge off, 3)) (ht : (pc : Int) + off = (tgt : Int)) (k : GC p l e R s m args below meth c D A nL Q ws k1 k2 (pc + 3) lv st) : GC p l e R s m args below meth c D A nL Q ws k1 k2 pc lv (.int y :: .int x :: st) :=
  fun H locs ls hP hD hS hl => lv_icmp_ge C.1 C.2.1 hd ht (fun g => absurd g h) (fun _ => k H locs ls hP hD hS hl)
theorem gc_obj (C : Cc p s m args meth c cc nL own D cI cJ cZ A) {a idx : Nat} (hl0 : Cond.methodLink own idx Lib.objectInit ∈ lw_tb) (h1 : Cond.instanceMethod Lib.objectInit ∈ lw_tb) (hd : decode cc pc = .ok (.invokespecial idx, 3)) (hf : 1 ≤ R.frames) (hlo : (st.map fun v => v.category).sum + 12 ≤ R.locals) (k : GC p l e R s m args below meth c D A nL Q ws k1 k2 (pc + 3) lv st) : GC p l e R s m args below meth c D A nL Q ws k1 k2 pc lv (.ref a :: st) :=
  fun H locs ls hP hD hS hl => W.objInit C.1 C.2.1 C.2.2.2.1 (C.2.2.2.2.1 _ hl0) (C.2.2.2.2.1 _ h1) (C.2.2.2.2.1 _ q_objcode) rfl (by rw [C.2.2.1]; exact hl.1) rfl hd hf (by show 2 * 0 + _ + 12 ≤ _; omega) (k H locs ls hP hD hS hl)
theorem gc_newai (C : Cc p s m args meth c cc nL own D cI cJ cZ A) {x : Int32} (N : Nat) (harr : Cond.arrayClass .int ∈ lw_tb) (hn : ¬ x < 0) (hN : x.toNatClampNeg = N) (hby : N * componentBytes .int ≤ 536870912) (h1 : k1 + 1 ≤ R.cells) (h2 : k2 + N ≤ R.slots) (hd : decode cc pc = .ok (.newarray .int, 2)) (k : ∀ q, GC p l e R s m args below meth c D A nL Q (ws ++ [(q, .inl (cI, N, .inl (fun _ => 0)))]) (k1 + 1) (k2 + N) (pc + 2) lv (.ref q :: st)) : GC p l e R s m args below meth c D A nL Q ws k1 k2 pc lv (.int x :: st) := by
  intro H locs ls hP hD hS hl
  refine va_newa (atype := .int) (a0 := (N, .inl (fun _ => 0))) C.1 C.2.1 (C.2.2.2.2.1 _ harr) rfl C.2.2.2.2.2.1 hP hD hS C.2.2.2.2.2.2.2.1 (fun cA => rfl) hn hN hby h1 h2 hd (fun q cA H1 hK1 hP1 hD1 hS1 => ?_)
  have e1 : cA = cI := Option.some.inj ((hK1.2 3 (cA, .int) rfl).2.symm.trans (C.2.2.2.2.2.1.2 0 (cI, .int) rfl).2)
  subst e1
  exact k q H1 locs ls hP1 hD1 hS1 hl
theorem gc_newal (C : Cc p s m args meth c cc nL own D cI cJ cZ A) {x : Int32} (N : Nat) (harr : Cond.arrayClass .long ∈ lw_tb) (hn : ¬ x < 0) (hN : x.toNatClampNeg = N) (hby : N * componentBytes .long ≤ 536870912) (h1 : k1 + 1 ≤ R.cells) (h2 : k2 + N ≤ R.slots) (hd : decode cc pc = .ok (.newarray .long, 2)) (k : ∀ q, GC p l e R s m args below meth c D A nL Q (ws ++ [(q, .inl (cJ, N, .inr (.inl (fun _ => 0))))]) (k1 + 1) (k2 + N) (pc + 2) lv (.ref q :: st)) : GC p l e R s m args below meth c D A nL Q ws k1 k2 pc lv (.int x :: st) := by
  intro H locs ls hP hD hS hl
  refine va_newa (atype := .long) (a0 := (N, .inr (.inl (fun _ => 0)))) C.1 C.2.1 (C.2.2.2.2.1 _ harr) rfl C.2.2.2.2.2.1 hP hD hS C.2.2.2.2.2.2.2.1 (fun cA => rfl) hn hN hby h1 h2 hd (fun q cA H1 hK1 hP1 hD1 hS1 => ?_)
  have e1 : cA = cJ := Option.some.inj ((hK1.2 3 (cA, .long) rfl).2.symm.trans (C.2.2.2.2.2.1.2 1 (cJ, .long) rfl).2)
  subst e1
  exact k q H1 locs ls hP1 hD1 hS1 hl
theorem gc_newaz (C : Cc p s m args meth c cc nL own D cI cJ cZ A) {x : Int32} (N : Nat) (harr : Cond.arrayClass .boolean ∈ lw_tb) (hn : ¬ x < 0) (hN : x.toNatClampNeg = N) (hby : N * componentBytes .boolean ≤ 536870912) (h1 : k1 + 1 ≤ R.cells) (h2 : k2 + N ≤ R.slots) (hd : decode cc pc = .ok (.newarray .boolean, 2)) (k : ∀ q, GC p l e R s m args below meth c D A nL Q (ws ++ [(q, .inl (cZ, N, .inl (fun _ => 0)))]) (k1 + 1) (k2 + N) (pc + 2) lv (.ref q :: st)) : GC p l e R s m args below meth c D A nL Q ws k1 k2 pc lv (.int x :: st) := by
  intro H locs ls hP hD hS hl
  refine va_newa (atype := .boolean) (a0 := (N, .inl (fun _ => 0))) C.1 C.2.1 (C.2.2.2.2.1 _ harr) rfl C.2.2.2.2.2.1 hP hD hS C.2.2.2.2.2.2.2.1 (fun cA => rfl) hn hN hby h1 h2 hd (fun q cA H1 hK1 hP1 hD1 hS1 => ?_)
  have e1 : cA = cZ := Option.some.inj ((hK1.2 3 (cA, .boolean) rfl).2.symm.trans (C.2.2.2.2.2.1.2 2 (cZ, .boolean) rfl).2)
  subst e1
  exact k q H1 locs ls hP1 hD1 hS1 hl
theorem gc_put (C : Cc p s m args meth c cc nL own D cI cJ cZ A) (q0 : Nat) {a ci N idx : Nat} {CC ref : String} {T : u_T} {fs : List Value} (he : ws[q0]? = some (a, .inr (ci, fs))) (hc : clsX[ci]? = some (CC, T, N)) (hin : ∀ w ∈ u_ws CC T N, w ∈ lw_tb) (k : Nat) (hk : k < N) {v : Value} {ws2 : va_W} (href : (T k).1 = ref) (hl : Cond.fieldLink own idx ref (T k).2.1 (T k).2.2.1 ∈ lw_tb) (ty0 : Nat → FieldType) (hty : ∀ k, k < N → parseFieldDescriptor (T k).2.2.1 = some (ty0 k)) (hnm : ∀ a, a < N → ∀ b, b < N → a ≠ b → (T a).2.1 ≠ (T b).2.1) (hfin : (T k).2.2.2 = false) (hn : narrow (ty0 k) v = v) (hfit : fits (ty0 k) v = true) (hlen : k < fs.length) (hw : ws.set q0 (a, .inr (ci, fs.set k v)) = ws2) (hd : decode cc pc = .ok (.putfield idx, 3)) (k2_ : GC p l e R s m args below meth c D A nL Q ws2 k1 k2 (pc + 3) lv st) : GC p l e R s m args below meth c D A nL Q ws k1 k2 pc lv (v :: .ref a :: st) := by
  subst hw
  exact fun H locs ls hP hD hS hl2 => va_put C.1 C.2.1 C.2.2.2.2.1 hin ty0 hty hnm C.2.2.2.1 C.2.2.2.2.2.1 hP hD hS q0 he hc k hk (C.2.2.2.2.1 _ hl) (fun _ h => href ▸ h) hfin (hty k hk) hn hfit hlen hd (fun H1 locs1 hP1 hD1 hS1 => k2_ H1 locs1 ls hP1 hD1 hS1 hl2)
theorem gc_putF (C : Cc p s m args meth c cc nL own D cI cJ cZ A) (q0 : Nat) {a ci N idx : Nat} {CC ref : String} {T : u_T} {fs : List Value} (he : ws[q0]? = some (a, .inr (ci, fs))) (hc : clsX[ci]? = some (CC, T, N)) (hin : ∀ w ∈ u_ws CC T N, w ∈ lw_tb) (k : Nat) (hk : k < N) {v : Value} {ws2 : va_W} (href : (T k).1 = ref) (hown : (T k).1 = own) (hl : Cond.fieldLink own idx ref (T k).2.1 (T k).2.2.1 ∈ lw_tb) (ty0 : Nat → FieldType) (hty : ∀ k, k < N → parseFieldDescriptor (T k).2.2.1 = some (ty0 k)) (hnm : ∀ a, a < N → ∀ b, b < N → a ≠ b → (T a).2.1 ≠ (T b).2.1) (hfin : (T k).2.2.2 = true) (hn : narrow (ty0 k) v = v) (hfit : fits (ty0 k) v = true) (hlen : k < fs.length) (hw : ws.set q0 (a, .inr (ci, fs.set k v)) = ws2) (hd : decode cc pc = .ok (.putfield idx, 3)) (k2_ : GC p l e R s m args below meth c D A nL Q ws2 k1 k2 (pc + 3) lv st) : GC p l e R s m args below meth c D A nL Q ws k1 k2 pc lv (v :: .ref a :: st) := by
  subst hw
  exact fun H locs ls hP hD hS hl2 => va_putF C.1 C.2.1 C.2.2.2.2.1 hin ty0 hty hnm C.2.2.2.1 C.2.2.2.2.2.1 hP hD hS q0 he hc k hk (C.2.2.2.2.1 _ hl) (fun _ h => href ▸ h) hfin C.2.2.2.2.2.2.2.2.2 hown (hty k hk) hn hfit hlen hd (fun H1 locs1 hP1 hD1 hS1 => k2_ H1 locs1 ls hP1 hD1 hS1 hl2)
theorem gc_get (C : Cc p s m args meth c cc nL own D cI cJ cZ A) (q0 : Nat) {a ci N idx : Nat} {CC ref : String} {T : u_T} {fs : List Value} (he : ws[q0]? = some (a, .inr (ci, fs))) (hc : clsX[ci]? = some (CC, T, N)) (hin : ∀ w ∈ u_ws CC T N, w ∈ lw_tb) (k : Nat) (hk : k < N) {v : Value} (href : (T k).1 = ref) (hl : Cond.fieldLink own idx ref (T k).2.1 (T k).2.2.1 ∈ lw_tb) (hv : fs[k]? = some v) (hd : decode cc pc = .ok (.getfield idx, 3)) (kk : GC p l e R s m args below meth c D A nL Q ws k1 k2 (pc + 3) lv (v :: st)) : GC p l e R s m args below meth c D A nL Q ws k1 k2 pc lv (.ref a :: st) :=
  fun H locs ls hP hD hS hl2 => va_get C.1 C.2.1 C.2.2.2.2.1 hin C.2.2.2.1 C.2.2.2.2.2.1 hP q0 he hc k hk (C.2.2.2.2.1 _ hl) (fun _ h => href ▸ h) hv hd (kk H locs ls hP hD hS hl2)
theorem gc_getN (C : Cc p s m args meth c cc nL own D cI cJ cZ A) (q0 : Nat) {a ci N idx : Nat} {CC ref : String} {T : u_T} {fs : List Value} (he : ws[q0]? = some (a, .inr (ci, fs))) (hc : clsX[ci]? = some (CC, T, N)) (hin : ∀ w ∈ u_ws CC T N, w ∈ lw_tb) (k : Nat) (hk : k < N) {v : Value} {host : String} (href : (T k).1 = ref) (hl : va_Nw (Cond.fieldLinkNest own idx ref (T k).2.1 (T k).2.2.1 host) s) (hv : fs[k]? = some v) (hd : decode cc pc = .ok (.getfield idx, 3)) (kk : GC p l e R s m args below meth c D A nL Q ws k1 k2 (pc + 3) lv (v :: st)) : GC p l e R s m args below meth c D A nL Q ws k1 k2 pc lv (.ref a :: st) :=
  fun H locs ls hP hD hS hl2 => va_getN C.1 C.2.1 C.2.2.2.2.1 hin C.2.2.2.1 C.2.2.2.2.2.1 hP q0 he hc k hk (hl.use rfl) (fun _ h => href ▸ h) hv hd (kk H locs ls hP hD hS hl2)
theorem gc_iast (C : Cc p s m args meth c cc nL own D cI cJ cZ A) (q0 : Nat) {a N : Nat} {f : Nat → Int32} {ws2 : va_W} (ha : ws[q0]? = some (a, .inl (cI, N, .inl f))) {i x : Int32} (j : Nat) (hin : vp_in i N) (hj : i.toNatClampNeg = j) (hw : ws.set q0 (a, .inl (cI, N, .inl (upd f j x))) = ws2) (hd : decode cc pc = .ok (.iastore, 1)) (k : GC p l e R s m args below meth c D A nL Q ws2 k1 k2 (pc + 1) lv st) : GC p l e R s m args below meth c D A nL Q ws k1 k2 pc lv (.int x :: .int i :: .ref a :: st) := by
  subst hw
  subst hj
  exact fun H locs ls hP hD hS hl => va_iast C.1 C.2.1 C.2.2.2.2.2.1 hP hD hS q0 0 ha rfl hin hd (fun H1 locs1 hP1 hD1 hS1 => k H1 locs1 ls hP1 hD1 hS1 hl)
theorem gc_new (C : Cc p s m args meth c cc nL own D cI cJ cZ A) {CC : String} {T : u_T} {N ci idx : Nat} {fs : List Value} (hin : ∀ w ∈ u_ws CC T N, w ∈ lw_tb) (ty0 : Nat → FieldType) (hty : ∀ k, k < N → parseFieldDescriptor (T k).2.2.1 = some (ty0 k)) (hcl : Cond.classLink own idx CC ∈ lw_tb) (hi : Cond.instantiable CC N ∈ lw_tb) (hini : Cond.initialized CC ∈ lw_tb) (hc : clsX[ci]? = some (CC, T, N)) (hfs : ∀ j, j < N → defaultValue (ty0 j) = vp_V fs j) (h1 : k1 + 1 ≤ R.cells) (h2 : k2 + N ≤ R.slots) (hd : decode cc pc = .ok (.new idx, 3)) (k : ∀ q, GC p l e R s m args below meth c D A nL Q (ws ++ [(q, .inr (ci, fs))]) (k1 + 1) (k2 + N) (pc + 3) lv (.ref q :: st)) : GC p l e R s m args below meth c D A nL Q ws k1 k2 pc lv st :=
  fun H locs ls hP hD hS hl => va_new C.1 C.2.1 C.2.2.2.2.1 hin ty0 hty C.2.2.2.1 (C.2.2.2.2.1 _ hcl) (C.2.2.2.2.1 _ hi) (C.2.2.2.2.1 _ hini) C.2.2.2.2.2.1 hP hD hS C.2.2.2.2.2.2.2.1 hc hfs h1 h2 hd (fun q H1 hP1 hD1 hS1 => k q H1 locs ls hP1 hD1 hS1 hl)
theorem PC.blind {a : Nat} {e0 : va_E} {As : List Value} {sz : Nat} : FrameBlind (va_Pc As (PC D cI cJ cZ a e0 sz)) := fun x U g mk h => by
  obtain ⟨h1, h2, h3, h4, h5⟩ := h
  exact ⟨h1, h2, h3, va_K.moved (u := U) (U := U.calling g mk x) (Vm.Alike.refl _) h4, h5.same rfl⟩
theorem gc_init (C : Cc p s m args meth c cc nL own D cI cJ cZ A) {V : Type} {post : V → Prop} {wo : V → va_W} {y : MethodName} {bytes : ByteArray} {maxL idx mc ms b : Nat} {rm : Room} {e0 : va_E} {host : String} (hct : CtC l y bytes maxL rm D cI cJ cZ mc ms post b e0 wo) (hlk : va_Nw (.methodLinkNest own idx y host) s) (h0 : Cond.instanceMethod y ∈ lw_tb) (h3 : Cond.initialized y.cls ∈ lw_tb) (h4 : Cond.code y bytes maxL none ∈ lw_tb) (hyn : y.name = "<init>") (hy : y.cls ≠ "java/lang/invoke/MethodHandle" ∧ y.cls ≠ "java/lang/invoke/VarHandle" ∧ (parseMethodDescriptor y.desc).map (fun d => d.parameters.length) = some 0) (hR : rm.frames + 1 ≤ R.frames ∧ 8 + (maxL + 11) + rm.locals ≤ R.locals) (hrc : rm.cells = mc) (hrs : rm.slots = ms) (i : Nat) (isR : List Nat) {wr : va_W} (hC : [i].map (fun i => ws[i]?) = [(b, e0)].map some) (hRr : isR.map (fun i => ws[i]?) = wr.map some) (hn : va_nd isR = true) (hdis : ∀ j ∈ isR, j ∉ [i]) (h1 : k1 + mc ≤ R.cells) (h2 : k2 + ms ≤ R.slots) (hcat : (st.map fun v => v.category).sum ≤ 8) (hd : decode cc pc = .ok (.invokespecial idx, 3)) (k : ∀ u, post u → GC p l e R s m args below meth c D A nL Q (wr ++ wo u) (k1 + mc) (k2 + ms) (pc + 3) lv st) : GC p l e R s m args below meth c D A nL Q ws k1 k2 pc lv (.ref b :: st) := by
  intro H locs ls hP hD hS hl2
  have hFc := va_free (wc := [(b, e0)]) hD hS C.2.2.2.2.2.2.2.1 [i] hC
  refine va_callv (va_runIN (As := []) (rest := st) ⟨C.1, C.2.1, C.2.2.1, C.2.2.2.1, C.2.2.2.2.1⟩ (hct H.size) ⟨va_cnB 0 C.2.2.2.2.1 (GoodIn.tb (cons_tb h4)) rfl hrc hrs hlk (C.2.2.2.2.1 _ h3) hy hR, hyn, C.2.2.2.2.1 _ h0⟩ ⟨PC.blind, fun U hU hW => ⟨rfl, by rw [hU], ?_, va_K.moved hW.alike C.2.2.2.2.2.1, C.2.2.2.2.2.2.1.warm hW⟩⟩ rfl rfl hl2.1 rfl (by show 2 * 0 + _ ≤ 8; omega) hd ⟨h1, h2⟩) hS (fun q _ h => hFc q h) hFc (fun u t H1 locs1 ht hvm hp hB hsz hk1 hS1 => ?_)
  · rw [hU]
    intro k q hk
    have hz : k < 1 := (List.getElem?_eq_some_iff.mp hk).1
    rw [show k = 0 by omega] at hk
    cases hk
    have hC2 : ws[i]? = some (b, e0) := List.head_eq_of_cons_eq hC
    exact hP i _ hC2
  · obtain ⟨hP1, hD1⟩ := hB
    rw [ht] at hP1
    obtain ⟨hPn, hDn⟩ := va_join hP hD [i] isR hC hRr hn hdis hk1 hFc hP1 hD1
    exact k u hp H1 locs1 ls hPn hDn hS1 hl2
theorem gc_cast {ws2 : va_W} (h : ws = ws2) {a1 a2 : Nat} (h1 : k1 = a1) (h2 : k2 = a2) (k : GC p l e R s m args below meth c D A nL Q ws2 a1 a2 pc lv st) : GC p l e R s m args below meth c D A nL Q ws k1 k2 pc lv st := by
  subst h; subst h1; subst h2; exact k
theorem gc_perm (is : List Nat) {ws2 : va_W} (hnd : va_nd is = true) (h : is.map (fun i => ws[i]?) = ws2.map some) (k : GC p l e R s m args below meth c D A nL Q ws2 k1 k2 pc lv st) : GC p l e R s m args below meth c D A nL Q ws k1 k2 pc lv st := by
  intro H locs ls hP hD hS hl
  refine k H locs ls (fun k q hk => ?_) (hD.sub is hnd h) hS hl
  have h1 : (is.map (fun i => ws[i]?))[k]? = some (some q) := by rw [h, List.getElem?_map, hk]; rfl
  rw [List.getElem?_map] at h1
  cases hi : is[k]? with
  | none => rw [hi] at h1; cases h1
  | some i => rw [hi] at h1; exact hP i q (Option.some.inj h1)
theorem gc_vret {V : Type} {post : V → Prop} {wo : V → va_W} (C : Cc p s m args meth c cc nL own D cI cJ cZ A) (hr : meth.sig.returnType = none) (u : V) (hu : post u) (hd : decode cc pc = .ok (.return_, 1)) : GC p l e R s m args below meth c D A nL (QC D k1 k2 post wo A args s below) (wo u) k1 k2 pc lv [] := by
  intro H locs ls hP hD hS hl
  exact W.vret C.1 C.2.1 hr (fun t ht hW => ⟨⟨u, rfl, hu, by rw [ht]; exact hP, hD⟩, hS.F ht⟩) hS.2.2 hd (hlocks := C.2.2.2.2.2.2.2.2.1)
theorem CtC.of {V : Type} {post : V → Prop} {wo : V → va_W} {y : MethodName} {bytes : ByteArray} {maxL mc ms a : Nat} {rm : Room} {e0 : va_E} (hy : plainName y.cls = true) (hyn : y.name = "<init>") (hlen : 1 ≤ maxL) (body : ∀ (p : Program) (e : Env) (s : State) (m : MethodId) (args : Array Value) (below : List Frame) (meth : Method) (c : Code), Cc p s m args meth c bytes maxL y.cls D cI cJ cZ (va_A [(a, e0)] s.heap.size) → meth.sig.returnType = none → GC p l e rm s m args below meth c D (va_A [(a, e0)] s.heap.size) maxL (QC D mc ms post wo (va_A [(a, e0)] s.heap.size) args s below) [(a, e0)] 0 0 0 [(0, .ref a)] []) : CtC l y bytes maxL rm D cI cJ cZ mc ms post a e0 wo := by
  intro sz
  refine Met.ofW (cc := bytes) (maxL := maxL) (ret := none) hy rfl ?_
  intro p e s m args below meth c s₁ B hml hv
  obtain ⟨rfl, hsz, hP, hK, hN⟩ := hv
  subst hsz
  have C : Cc p s m ([Value.ref a] : List Value).toArray meth c bytes maxL y.cls D cI cJ cZ (va_A [(a, e0)] s.heap.size) := ⟨B.exec, B.bytes, hml, findClass_of_methodNamed B.named, fun w hw => atoms_spec (ws := Cond.code y bytes maxL none :: lw_tb) B.pre w (List.mem_cons_of_mem _ hw), hK, hN, fun q h => Or.inr h, B.notSynchronized, by rw [← hyn]; exact (name_of_methodNamed B.named B.method).1⟩
  have hl := lv_entry [Value.ref a] (n := maxL) (by exact hlen)
  rw [lg_entry_eq]
  exact body p e s m _ below meth c C B.returns _ _ _ hP oneD va_S.rf hl
end GCR
