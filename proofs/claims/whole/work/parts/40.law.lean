/-! THE CLAIM OUT OF ONE WALK OF THE LAW'S BODY. Your part is whole_start (and what it stands on); all else here is the same for every law, but numbers. -/
def R_law : String := "HillHoursLaw"
def lw_P (b : Addr) (xs : List Int32) (args : Array Value) (s : State) : Prop := args = #[.ref b] ∧ s.IntsAt b xs ∧ xs.length ≤ 3072 ∧ (Jvm.Cond.and given_1 narrow_1).before args s = true
def lw_Q (_ : Array Value) (s : State) (o : Outcome) (t : State) : Prop := o = .returned (some (.int 1)) ∧ Framed s o t [] 54 4328
def lw_Z (below : List Frame) (a : Array Value) (s : State) : State → Prop := fun t => ∃ o, t.status = .running ∧ Ended t below o ∧ lw_Q a s o t
/-- the law's own end, with 1 on the stack, nothing written that was there before, its room as the claim has it -/
theorem lw_ret {p : Program} {l : Launch} {e : Env} {s : State} {m : MethodId} {below : List Frame} {meth : Method} {c : Code} {b : Nat} (hx : p.tables.exec = Jvm.exec) (hb : c.code = code) (hr : meth.sig.returnType = ret) (hlocks : meth.locks = false) {pc : Nat} {H : Heap} {ls : Array Slot} (hdg : decode code pc = .ok (.ireturn, 1)) : W p l e room_1 s m #[Value.ref b] below meth c H [] 54 4328 (lw_Z below #[Value.ref b] s) (F0 m pc ls [.int 1]) := by
  intro T hT X
  obtain ⟨fs, hret, hrun, hended, hW, hframe⟩ := X.leave (v := some (.int 1)) (hlocks := hlocks) (fun h => by rw [hr] at h; cases h)
  have hmeth' : T.vm.method? m = some meth := X.method'
  refine ⟨T.setFrames fs, ?_, .returned (some (.int 1)), hrun, hended, rfl, ⟨_, rfl⟩, hW, hframe⟩
  jvm_step X.here [X.here.top, hx, hb, hdg, hmeth', hr, ret, narrow_b1]
  (try refine ⟨rfl, ?_⟩); (try refine ⟨rfl, ?_⟩)
  first | (intro acts; rw [hret _ acts rfl rfl rfl]) | rw [hret _ _ rfl rfl rfl]
  exact Steps.refl _
/-- what holds at the law's entry: the machine, the code, the tables' words (any of lw_tbl by 'hts w (by decide +kernel)'), the script of L ints xs at the cell b, what the Statement gives of the start (any of its parts by flat_of_before) -/
def lw_At (p : Program) (s : State) (m : MethodId) (meth : Method) (c : Code) (b L : Nat) (xs : Nat → Int32) : Prop :=
  p.tables.exec = Jvm.exec ∧ c.code = code ∧ meth.sig.returnType = ret ∧ c.maxLocals = 4 ∧ s.vm.findClass R_law = some m.cls ∧ (∀ w ∈ lw_tbl, w.before #[Value.ref b] s = true) ∧ va_X b L xs s s.heap ∧ b < s.heap.size ∧ meth.locks = false ∧ (Jvm.Cond.and given_1 narrow_1).before #[Value.ref b] s = true
theorem lg_cmp_self (x : Int64) : lg_cmp x x = 0 := by simp [lg_cmp, Int64.lt_irrefl]
/-- what holds all through the law -/
def CL (p : Program) (s : State) (m : MethodId) (meth : Method) (c : Code) (b L : Nat) (xs : Nat → Int32) (D : va_G) (adX adM : Nat → Nat) (cI cJ cZ : ClassId) : Prop :=
  p.tables.exec = Jvm.exec ∧ c.code = code ∧ c.maxLocals = 4 ∧ s.vm.findClass RL = some m.cls ∧ (∀ w ∈ lw_tb, w.before #[Value.ref b] s = true) ∧ va_K D clsX (tyX cI cJ cZ) s ∧ NX s ∧ va_X b L xs s s.heap ∧ b < s.heap.size ∧
  (∀ sz S, va_D (Adr adX 32 sz) (wX adX cI cJ cZ S)) ∧ (∀ sz S, va_D (Adr adM 22 sz) (wM adM cI cJ cZ S)) ∧ (∀ k, k < 32 → s.heap.size ≤ adX k) ∧ (∀ k, k < 22 → s.heap.size ≤ adM k) ∧ (∀ i j, i < 32 → j < 22 → adX i ≠ adM j)
def GL (p : Program) (l : Launch) (e : Env) (s : State) (m : MethodId) (below : List Frame) (meth : Method) (c : Code) (b : Nat) (D : va_G) (adX adM : Nat → Nat) (cI cJ cZ : ClassId) (SX SM : St) (pc : Nat) (lv : List (Nat × Value)) (st : List Value) : Prop :=
  ∀ (H : Heap) (locs : List Loc) (ls : Array Slot), va_P D clsX (wX adX cI cJ cZ SX) H → va_P D clsX (wM adM cI cJ cZ SM) H → va_S (fun q => s.heap.size ≤ q) s.heap H locs → lv_has ls 4 lv → W p l e room_1 s m #[Value.ref b] below meth c H locs 54 4328 (lw_Z below #[Value.ref b] s) (F0 m pc ls st)
section GLR
variable {p : Program} {l : Launch} {e : Env} {s : State} {m : MethodId} {below : List Frame} {meth : Method} {c : Code} {b L : Nat} {xs : Nat → Int32} {D : va_G} {adX adM : Nat → Nat} {cI cJ cZ : ClassId} {SX SM : St} {pc : Nat} {lv : List (Nat × Value)} {st : List Value}
theorem gl_iconst (C : CL p s m meth c b L xs D adX adM cI cJ cZ) {a : Int} {v : Int32} (hd : decode code pc = .ok (.iconst a, 1)) (hv : Int32.ofInt a = v) (k : GL p l e s m below meth c b D adX adM cI cJ cZ SX SM (pc + 1) lv (.int v :: st)) : GL p l e s m below meth c b D adX adM cI cJ cZ SX SM pc lv (st) :=
  fun H locs ls hP hM hS hl => lv_iconst C.1 C.2.1 hd hv (k H locs ls hP hM hS hl)
theorem gl_iload_n (C : CL p s m meth c b L xs D adX adM cI cJ cZ) {j : Fin 4} {i : Nat} {x : Int32} (hd : decode code pc = .ok (.iload_n j, 1)) (hi : (j : Nat) = i) (q : Nat) (hq : lv[q]? = some (i, .int x)) (k : GL p l e s m below meth c b D adX adM cI cJ cZ SX SM (pc + 1) lv (.int x :: st)) : GL p l e s m below meth c b D adX adM cI cJ cZ SX SM pc lv (st) :=
  fun H locs ls hP hM hS hl => lv_iload_n C.1 C.2.1 hd hi (lv_at hl q hq) (k H locs ls hP hM hS hl)
theorem gl_aload_n (C : CL p s m meth c b L xs D adX adM cI cJ cZ) {j : Fin 4} {i : Nat} {x : Nat} (hd : decode code pc = .ok (.aload_n j, 1)) (hi : (j : Nat) = i) (q : Nat) (hq : lv[q]? = some (i, .ref x)) (k : GL p l e s m below meth c b D adX adM cI cJ cZ SX SM (pc + 1) lv (.ref x :: st)) : GL p l e s m below meth c b D adX adM cI cJ cZ SX SM pc lv (st) :=
  fun H locs ls hP hM hS hl => lv_aload_n C.1 C.2.1 hd hi (lv_at hl q hq) (k H locs ls hP hM hS hl)
theorem gl_iadd (C : CL p s m meth c b L xs D adX adM cI cJ cZ) {x y : Int32} (hd : decode code pc = .ok (.iadd, 1))  (k : GL p l e s m below meth c b D adX adM cI cJ cZ SX SM (pc + 1) lv (.int (x + y) :: st)) : GL p l e s m below meth c b D adX adM cI cJ cZ SX SM pc lv (.int y :: .int x :: st) :=
  fun H locs ls hP hM hS hl => lv_iadd C.1 C.2.1 hd  (k H locs ls hP hM hS hl)
theorem gl_sld (C : CL p s m meth c b L xs D adX adM cI cJ cZ) {i : Int32} (hin : vp_in i L) (hd : decode code pc = .ok (.iaload, 1)) (k : GL p l e s m below meth c b D adX adM cI cJ cZ SX SM (pc + 1) lv (.int (xs i.toNatClampNeg) :: st)) : GL p l e s m below meth c b D adX adM cI cJ cZ SX SM pc lv (.int i :: .ref b :: st) :=
  fun H locs ls hP hM hS hl => va_sld C.1 C.2.1 C.2.2.2.2.2.2.2.1 C.2.2.2.2.2.2.2.2.1 (Nat.not_le.mpr C.2.2.2.2.2.2.2.2.1) hS hin hd (k H locs ls hP hM hS hl)
theorem gl_eqi (C : CL p s m meth c b L xs D adX adM cI cJ cZ) {x : Int32} {off : Int} {tgt : Nat} (hd : decode code pc = .ok (.if_icmp .eq off, 3)) (ht : (pc : Int) + off = (tgt : Int)) (k : GL p l e s m below meth c b D adX adM cI cJ cZ SX SM tgt lv st) : GL p l e s m below meth c b D adX adM cI cJ cZ SX SM pc lv (.int x :: .int x :: st) :=
  fun H locs ls hP hM hS hl => lv_icmp_eq C.1 C.2.1 hd ht (fun _ => k H locs ls hP hM hS hl) (fun h => absurd rfl h)
theorem gl_eql (C : CL p s m meth c b L xs D adX adM cI cJ cZ) {x : Int64} {off : Int} {tgt : Nat} (hd0 : decode code pc = .ok (.lcmp, 1)) (hd : decode code (pc + 1) = .ok (.ifCond .eq off, 3)) (ht : ((pc + 1 : Nat) : Int) + off = (tgt : Int)) (k : GL p l e s m below meth c b D adX adM cI cJ cZ SX SM tgt lv st) : GL p l e s m below meth c b D adX adM cI cJ cZ SX SM pc lv (.long x :: .long x :: st) :=
  fun H locs ls hP hM hS hl => W.lcmp C.1 C.2.1 hd0 (lv_if_eq C.1 C.2.1 hd ht (fun _ => k H locs ls hP hM hS hl) (fun h => absurd (lg_cmp_self x) h))
theorem gl_callXi (C : CL p s m meth c b L xs D adX adM cI cJ cZ) {z : Int32 × St} {y : MethodName} {bytes : ByteArray} {maxL idx : Nat} {ret : Option FieldType} {rm : Room} {As rest : List Value} (hct : CtI l y bytes maxL ret rm D (wX adX cI cJ cZ) (tyX cI cJ cZ) adX 32 (.ref (adX 0) :: As) SX z) (hl : Cond.methodLink RL idx y ∈ lw_tb) (hw : MwV RX6 y bytes maxL ret As.length) (hR : rm.frames + 1 ≤ room_1.frames ∧ 8 + (maxL + 11) + rm.locals ≤ room_1.locals) (hrc : rm.cells = 0) (hrs : rm.slots = 0) (hst : st = As.reverse ++ .ref (adX 0) :: rest) (hcat : (rest.map fun v => v.category).sum ≤ 8) (hd : decode code pc = .ok (.invokevirtual idx, 3)) (k : GL p l e s m below meth c b D adX adM cI cJ cZ z.2 SM (pc + 3) lv (.int z.1 :: rest)) : GL p l e s m below meth c b D adX adM cI cJ cZ SX SM pc lv st := by
  intro H locs ls hP hM hS hl2
  subst hst
  have hF : ∀ q, Adr adX 32 H.size q → s.heap.size ≤ q := fun q h => by
    rcases h with ⟨j, hj, rfl⟩ | h
    · exact C.2.2.2.2.2.2.2.2.2.2.2.1 j hj
    · exact Nat.le_trans hS.1 h
  refine va_calli (va_runV (As := As) (rest := rest) ⟨C.1, C.2.1, C.2.2.1, C.2.2.2.1, C.2.2.2.2.1⟩ (hct H.size) (cwV As.length C.2.2.2.2.1 (hw.good hl) rfl hrc hrs hw.1 hR) ⟨PS.blind, va_recv (ci := 6) C.2.2.2.2.2.1 hP rfl (show (wX adX cI cJ cZ SX)[0]? = some (adX 0, _) from rfl), fun U hU hW => ⟨rfl, by rw [hU], by rw [hU]; exact hP, va_K.moved hW.alike C.2.2.2.2.2.1, C.2.2.2.2.2.2.1.warm hW⟩⟩ rfl rfl hl2.1 rfl (by show 2 * 0 + _ ≤ 8; omega) hd ⟨Nat.le_of_ble_eq_true rfl, Nat.le_of_ble_eq_true rfl⟩) hS (fun q _ h => hF q h) hF (fun r u t H1 locs1 ht hvm hp hB hsz hk1 hS1 => ?_)
  obtain ⟨rfl, rfl⟩ := hp
  have hO : va_P D clsX (wM adM cI cJ cZ SM) H1 := hM.kept (fun k q hk => by
    obtain ⟨g1, g2⟩ := fst_at (wM_fst _ _ _ _ _) hk
    have hlt := (hM k q hk).lt
    refine hk1 _ hlt (fun h => ?_)
    rcases h with ⟨j, hj, h⟩ | h
    · exact C.2.2.2.2.2.2.2.2.2.2.2.2.2 j k hj g1 (h.symm.trans g2)
    · omega)
  exact k H1 locs1 ls (by rw [← ht]; exact hB) hO hS1 hl2
theorem gl_callMi (C : CL p s m meth c b L xs D adX adM cI cJ cZ) {z : Int32 × St} {y : MethodName} {bytes : ByteArray} {maxL idx : Nat} {ret : Option FieldType} {rm : Room} {As rest : List Value} (hct : CtI l y bytes maxL ret rm D (wM adM cI cJ cZ) (tyX cI cJ cZ) adM 22 (.ref (adM 0) :: As) SM z) (hl : Cond.methodLink RL idx y ∈ lw_tb) (hw : MwV RX7 y bytes maxL ret As.length) (hR : rm.frames + 1 ≤ room_1.frames ∧ 8 + (maxL + 11) + rm.locals ≤ room_1.locals) (hrc : rm.cells = 0) (hrs : rm.slots = 0) (hst : st = As.reverse ++ .ref (adM 0) :: rest) (hcat : (rest.map fun v => v.category).sum ≤ 8) (hd : decode code pc = .ok (.invokevirtual idx, 3)) (k : GL p l e s m below meth c b D adX adM cI cJ cZ SX z.2 (pc + 3) lv (.int z.1 :: rest)) : GL p l e s m below meth c b D adX adM cI cJ cZ SX SM pc lv st := by
  intro H locs ls hP hM hS hl2
  subst hst
  have hF : ∀ q, Adr adM 22 H.size q → s.heap.size ≤ q := fun q h => by
    rcases h with ⟨j, hj, rfl⟩ | h
    · exact C.2.2.2.2.2.2.2.2.2.2.2.2.1 j hj
    · exact Nat.le_trans hS.1 h
  refine va_calli (va_runV (As := As) (rest := rest) ⟨C.1, C.2.1, C.2.2.1, C.2.2.2.1, C.2.2.2.2.1⟩ (hct H.size) (cwV As.length C.2.2.2.2.1 (hw.good hl) rfl hrc hrs hw.1 hR) ⟨PS.blind, va_recv (ci := 7) C.2.2.2.2.2.1 hM rfl (show (wM adM cI cJ cZ SM)[0]? = some (adM 0, _) from rfl), fun U hU hW => ⟨rfl, by rw [hU], by rw [hU]; exact hM, va_K.moved hW.alike C.2.2.2.2.2.1, C.2.2.2.2.2.2.1.warm hW⟩⟩ rfl rfl hl2.1 rfl (by show 2 * 0 + _ ≤ 8; omega) hd ⟨Nat.le_of_ble_eq_true rfl, Nat.le_of_ble_eq_true rfl⟩) hS (fun q _ h => hF q h) hF (fun r u t H1 locs1 ht hvm hp hB hsz hk1 hS1 => ?_)
  obtain ⟨rfl, rfl⟩ := hp
  have hO : va_P D clsX (wX adX cI cJ cZ SX) H1 := hP.kept (fun k q hk => by
    obtain ⟨g1, g2⟩ := fst_at (wX_fst _ _ _ _ _) hk
    have hlt := (hP k q hk).lt
    refine hk1 _ hlt (fun h => ?_)
    rcases h with ⟨j, hj, h⟩ | h
    · exact C.2.2.2.2.2.2.2.2.2.2.2.2.2 k j g1 hj (g2.symm.trans h)
    · omega)
  exact k H1 locs1 ls hO (by rw [← ht]; exact hB) hS1 hl2
theorem gl_callXl (C : CL p s m meth c b L xs D adX adM cI cJ cZ) {z : Int64 × St} {y : MethodName} {bytes : ByteArray} {maxL idx : Nat} {ret : Option FieldType} {rm : Room} {As rest : List Value} (hct : CtL l y bytes maxL ret rm D (wX adX cI cJ cZ) (tyX cI cJ cZ) adX 32 (.ref (adX 0) :: As) SX z) (hl : Cond.methodLink RL idx y ∈ lw_tb) (hw : MwV RX6 y bytes maxL ret As.length) (hR : rm.frames + 1 ≤ room_1.frames ∧ 8 + (maxL + 11) + rm.locals ≤ room_1.locals) (hrc : rm.cells = 0) (hrs : rm.slots = 0) (hst : st = As.reverse ++ .ref (adX 0) :: rest) (hcat : (rest.map fun v => v.category).sum ≤ 8) (hd : decode code pc = .ok (.invokevirtual idx, 3)) (k : GL p l e s m below meth c b D adX adM cI cJ cZ z.2 SM (pc + 3) lv (.long z.1 :: rest)) : GL p l e s m below meth c b D adX adM cI cJ cZ SX SM pc lv st := by
  intro H locs ls hP hM hS hl2
  subst hst
  have hF : ∀ q, Adr adX 32 H.size q → s.heap.size ≤ q := fun q h => by
    rcases h with ⟨j, hj, rfl⟩ | h
    · exact C.2.2.2.2.2.2.2.2.2.2.2.1 j hj
    · exact Nat.le_trans hS.1 h
  refine va_calll (va_runV (As := As) (rest := rest) ⟨C.1, C.2.1, C.2.2.1, C.2.2.2.1, C.2.2.2.2.1⟩ (hct H.size) (cwV As.length C.2.2.2.2.1 (hw.good hl) rfl hrc hrs hw.1 hR) ⟨PS.blind, va_recv (ci := 6) C.2.2.2.2.2.1 hP rfl (show (wX adX cI cJ cZ SX)[0]? = some (adX 0, _) from rfl), fun U hU hW => ⟨rfl, by rw [hU], by rw [hU]; exact hP, va_K.moved hW.alike C.2.2.2.2.2.1, C.2.2.2.2.2.2.1.warm hW⟩⟩ rfl rfl hl2.1 rfl (by show 2 * 0 + _ ≤ 8; omega) hd ⟨Nat.le_of_ble_eq_true rfl, Nat.le_of_ble_eq_true rfl⟩) hS (fun q _ h => hF q h) hF (fun r u t H1 locs1 ht hvm hp hB hsz hk1 hS1 => ?_)
  obtain ⟨rfl, rfl⟩ := hp
  have hO : va_P D clsX (wM adM cI cJ cZ SM) H1 := hM.kept (fun k q hk => by
    obtain ⟨g1, g2⟩ := fst_at (wM_fst _ _ _ _ _) hk
    have hlt := (hM k q hk).lt
    refine hk1 _ hlt (fun h => ?_)
    rcases h with ⟨j, hj, h⟩ | h
    · exact C.2.2.2.2.2.2.2.2.2.2.2.2.2 j k hj g1 (h.symm.trans g2)
    · omega)
  exact k H1 locs1 ls (by rw [← ht]; exact hB) hO hS1 hl2
theorem gl_callMl (C : CL p s m meth c b L xs D adX adM cI cJ cZ) {z : Int64 × St} {y : MethodName} {bytes : ByteArray} {maxL idx : Nat} {ret : Option FieldType} {rm : Room} {As rest : List Value} (hct : CtL l y bytes maxL ret rm D (wM adM cI cJ cZ) (tyX cI cJ cZ) adM 22 (.ref (adM 0) :: As) SM z) (hl : Cond.methodLink RL idx y ∈ lw_tb) (hw : MwV RX7 y bytes maxL ret As.length) (hR : rm.frames + 1 ≤ room_1.frames ∧ 8 + (maxL + 11) + rm.locals ≤ room_1.locals) (hrc : rm.cells = 0) (hrs : rm.slots = 0) (hst : st = As.reverse ++ .ref (adM 0) :: rest) (hcat : (rest.map fun v => v.category).sum ≤ 8) (hd : decode code pc = .ok (.invokevirtual idx, 3)) (k : GL p l e s m below meth c b D adX adM cI cJ cZ SX z.2 (pc + 3) lv (.long z.1 :: rest)) : GL p l e s m below meth c b D adX adM cI cJ cZ SX SM pc lv st := by
  intro H locs ls hP hM hS hl2
  subst hst
  have hF : ∀ q, Adr adM 22 H.size q → s.heap.size ≤ q := fun q h => by
    rcases h with ⟨j, hj, rfl⟩ | h
    · exact C.2.2.2.2.2.2.2.2.2.2.2.2.1 j hj
    · exact Nat.le_trans hS.1 h
  refine va_calll (va_runV (As := As) (rest := rest) ⟨C.1, C.2.1, C.2.2.1, C.2.2.2.1, C.2.2.2.2.1⟩ (hct H.size) (cwV As.length C.2.2.2.2.1 (hw.good hl) rfl hrc hrs hw.1 hR) ⟨PS.blind, va_recv (ci := 7) C.2.2.2.2.2.1 hM rfl (show (wM adM cI cJ cZ SM)[0]? = some (adM 0, _) from rfl), fun U hU hW => ⟨rfl, by rw [hU], by rw [hU]; exact hM, va_K.moved hW.alike C.2.2.2.2.2.1, C.2.2.2.2.2.2.1.warm hW⟩⟩ rfl rfl hl2.1 rfl (by show 2 * 0 + _ ≤ 8; omega) hd ⟨Nat.le_of_ble_eq_true rfl, Nat.le_of_ble_eq_true rfl⟩) hS (fun q _ h => hF q h) hF (fun r u t H1 locs1 ht hvm hp hB hsz hk1 hS1 => ?_)
  obtain ⟨rfl, rfl⟩ := hp
  have hO : va_P D clsX (wX adX cI cJ cZ SX) H1 := hP.kept (fun k q hk => by
    obtain ⟨g1, g2⟩ := fst_at (wX_fst _ _ _ _ _) hk
    have hlt := (hP k q hk).lt
    refine hk1 _ hlt (fun h => ?_)
    rcases h with ⟨j, hj, h⟩ | h
    · exact C.2.2.2.2.2.2.2.2.2.2.2.2.2 k j g1 hj (g2.symm.trans h)
    · omega)
  exact k H1 locs1 ls hO (by rw [← ht]; exact hB) hS1 hl2
def Ag_type (Rel : St → St → Prop) : Prop := ∀ SX SM, Rel SX SM → ∀ x1 : Int32, ∃ (r : Int32) (SX2 SM2 : St), m_X6_type x1 SX = some (r, SX2) ∧ m_X7_type x1 SM = some (r, SM2) ∧ Rel SX2 SM2
theorem lc_0 (C : CL p s m meth c b L xs D adX adM cI cJ cZ) {x : Int32} {Rel : St → St → Prop} (h : Ag_type Rel) (hR : Rel SX SM) (hi1 : vp_in (x + 1) L) (hi2 : vp_in (x + 2) L) (hi3 : vp_in (x + 3) L) (hi4 : vp_in (x + 4) L) (hi5 : vp_in (x + 5) L) (hk : ∀ SX SM, Rel SX SM → GL p l e s m below meth c b D adX adM cI cJ cZ SX SM 1362 [(0, .ref b), (1, .ref (adX 0)), (2, .ref (adM 0)), (3, .int x)] []) : GL p l e s m below meth c b D adX adM cI cJ cZ SX SM 192 [(0, .ref b), (1, .ref (adX 0)), (2, .ref (adM 0)), (3, .int x)] [] := by
  obtain ⟨r, SX2, SM2, e1, e2, hR2⟩ := h SX SM hR (xs (x + 1).toNatClampNeg)
  refine gl_aload_n (pc := 192) C dL_law_192 (i := 1) rfl 1 rfl ?_
  refine gl_aload_n (pc := 193) C dL_law_193 (i := 0) rfl 0 rfl ?_
  refine gl_iload_n (pc := 194) C dL_law_194 (i := 3) rfl 3 rfl ?_
  refine gl_iconst (pc := 195) (v := 1) C dL_law_195 (by decide) ?_
  refine gl_iadd (pc := 196) C dL_law_196 ?_
  refine gl_sld (pc := 197) C hi1 dL_law_197 ?_
  refine gl_callXi (pc := 198) (As := [.int _]) C (c_X6_type C.2.2.2.2.2.2.2.2.2.1 e1) q299 mw_X6_type ⟨Nat.le_of_ble_eq_true rfl, Nat.le_of_ble_eq_true rfl⟩ rfl rfl rfl (Nat.le_of_ble_eq_true rfl) dL_law_198 ?_
  refine gl_aload_n (pc := 201) C dL_law_201 (i := 2) rfl 2 rfl ?_
  refine gl_aload_n (pc := 202) C dL_law_202 (i := 0) rfl 0 rfl ?_
  refine gl_iload_n (pc := 203) C dL_law_203 (i := 3) rfl 3 rfl ?_
  refine gl_iconst (pc := 204) (v := 1) C dL_law_204 (by decide) ?_
  refine gl_iadd (pc := 205) C dL_law_205 ?_
  refine gl_sld (pc := 206) C hi1 dL_law_206 ?_
  refine gl_callMi (pc := 207) (As := [.int _]) C (c_X7_type C.2.2.2.2.2.2.2.2.2.2.1 e2) q956 mw_X7_type ⟨Nat.le_of_ble_eq_true rfl, Nat.le_of_ble_eq_true rfl⟩ rfl rfl rfl (Nat.le_of_ble_eq_true rfl) dL_law_207 ?_
  refine gl_eqi (pc := 210) (tgt := 1362) C dL_law_210 (by decide) ?_
  exact hk _ _ hR2
def Ag_wipe (Rel : St → St → Prop) : Prop := ∀ SX SM, Rel SX SM → ∃ (r : Int32) (SX2 SM2 : St), m_X6_wipe  SX = some (r, SX2) ∧ m_X7_wipe  SM = some (r, SM2) ∧ Rel SX2 SM2
theorem lc_1 (C : CL p s m meth c b L xs D adX adM cI cJ cZ) {x : Int32} {Rel : St → St → Prop} (h : Ag_wipe Rel) (hR : Rel SX SM) (hi1 : vp_in (x + 1) L) (hi2 : vp_in (x + 2) L) (hi3 : vp_in (x + 3) L) (hi4 : vp_in (x + 4) L) (hi5 : vp_in (x + 5) L) (hk : ∀ SX SM, Rel SX SM → GL p l e s m below meth c b D adX adM cI cJ cZ SX SM 1362 [(0, .ref b), (1, .ref (adX 0)), (2, .ref (adM 0)), (3, .int x)] []) : GL p l e s m below meth c b D adX adM cI cJ cZ SX SM 215 [(0, .ref b), (1, .ref (adX 0)), (2, .ref (adM 0)), (3, .int x)] [] := by
  obtain ⟨r, SX2, SM2, e1, e2, hR2⟩ := h SX SM hR 
  refine gl_aload_n (pc := 215) C dL_law_215 (i := 1) rfl 1 rfl ?_
  refine gl_callXi (pc := 216) (As := []) C (c_X6_wipe C.2.2.2.2.2.2.2.2.2.1 e1) q375 mw_X6_wipe ⟨Nat.le_of_ble_eq_true rfl, Nat.le_of_ble_eq_true rfl⟩ rfl rfl rfl (Nat.le_of_ble_eq_true rfl) dL_law_216 ?_
  refine gl_aload_n (pc := 219) C dL_law_219 (i := 2) rfl 2 rfl ?_
  refine gl_callMi (pc := 220) (As := []) C (c_X7_wipe C.2.2.2.2.2.2.2.2.2.2.1 e2) q963 mw_X7_wipe ⟨Nat.le_of_ble_eq_true rfl, Nat.le_of_ble_eq_true rfl⟩ rfl rfl rfl (Nat.le_of_ble_eq_true rfl) dL_law_220 ?_
  refine gl_eqi (pc := 223) (tgt := 1362) C dL_law_223 (by decide) ?_
  exact hk _ _ hR2
def Ag_fault (Rel : St → St → Prop) : Prop := ∀ SX SM, Rel SX SM → ∃ (r : Int32) (SX2 SM2 : St), m_X6_fault  SX = some (r, SX2) ∧ m_X7_fault  SM = some (r, SM2) ∧ Rel SX2 SM2
theorem lc_2 (C : CL p s m meth c b L xs D adX adM cI cJ cZ) {x : Int32} {Rel : St → St → Prop} (h : Ag_fault Rel) (hR : Rel SX SM) (hi1 : vp_in (x + 1) L) (hi2 : vp_in (x + 2) L) (hi3 : vp_in (x + 3) L) (hi4 : vp_in (x + 4) L) (hi5 : vp_in (x + 5) L) (hk : ∀ SX SM, Rel SX SM → GL p l e s m below meth c b D adX adM cI cJ cZ SX SM 1362 [(0, .ref b), (1, .ref (adX 0)), (2, .ref (adM 0)), (3, .int x)] []) : GL p l e s m below meth c b D adX adM cI cJ cZ SX SM 228 [(0, .ref b), (1, .ref (adX 0)), (2, .ref (adM 0)), (3, .int x)] [] := by
  obtain ⟨r, SX2, SM2, e1, e2, hR2⟩ := h SX SM hR 
  refine gl_aload_n (pc := 228) C dL_law_228 (i := 1) rfl 1 rfl ?_
  refine gl_callXi (pc := 229) (As := []) C (c_X6_fault C.2.2.2.2.2.2.2.2.2.1 e1) q383 mw_X6_fault ⟨Nat.le_of_ble_eq_true rfl, Nat.le_of_ble_eq_true rfl⟩ rfl rfl rfl (Nat.le_of_ble_eq_true rfl) dL_law_229 ?_
  refine gl_aload_n (pc := 232) C dL_law_232 (i := 2) rfl 2 rfl ?_
  refine gl_callMi (pc := 233) (As := []) C (c_X7_fault C.2.2.2.2.2.2.2.2.2.2.1 e2) q967 mw_X7_fault ⟨Nat.le_of_ble_eq_true rfl, Nat.le_of_ble_eq_true rfl⟩ rfl rfl rfl (Nat.le_of_ble_eq_true rfl) dL_law_233 ?_
  refine gl_eqi (pc := 236) (tgt := 1362) C dL_law_236 (by decide) ?_
  exact hk _ _ hR2
def Ag_cell (Rel : St → St → Prop) : Prop := ∀ SX SM, Rel SX SM → ∀ x1 x2 : Int32, ∃ (r : Int32) (SX2 SM2 : St), m_X6_cell x1 x2 SX = some (r, SX2) ∧ m_X7_cell x1 x2 SM = some (r, SM2) ∧ Rel SX2 SM2
theorem lc_3 (C : CL p s m meth c b L xs D adX adM cI cJ cZ) {x : Int32} {Rel : St → St → Prop} (h : Ag_cell Rel) (hR : Rel SX SM) (hi1 : vp_in (x + 1) L) (hi2 : vp_in (x + 2) L) (hi3 : vp_in (x + 3) L) (hi4 : vp_in (x + 4) L) (hi5 : vp_in (x + 5) L) (hk : ∀ SX SM, Rel SX SM → GL p l e s m below meth c b D adX adM cI cJ cZ SX SM 1362 [(0, .ref b), (1, .ref (adX 0)), (2, .ref (adM 0)), (3, .int x)] []) : GL p l e s m below meth c b D adX adM cI cJ cZ SX SM 241 [(0, .ref b), (1, .ref (adX 0)), (2, .ref (adM 0)), (3, .int x)] [] := by
  obtain ⟨r, SX2, SM2, e1, e2, hR2⟩ := h SX SM hR (xs (x + 1).toNatClampNeg) (xs (x + 2).toNatClampNeg)
  refine gl_aload_n (pc := 241) C dL_law_241 (i := 1) rfl 1 rfl ?_
  refine gl_aload_n (pc := 242) C dL_law_242 (i := 0) rfl 0 rfl ?_
  refine gl_iload_n (pc := 243) C dL_law_243 (i := 3) rfl 3 rfl ?_
  refine gl_iconst (pc := 244) (v := 1) C dL_law_244 (by decide) ?_
  refine gl_iadd (pc := 245) C dL_law_245 ?_
  refine gl_sld (pc := 246) C hi1 dL_law_246 ?_
  refine gl_aload_n (pc := 247) C dL_law_247 (i := 0) rfl 0 rfl ?_
  refine gl_iload_n (pc := 248) C dL_law_248 (i := 3) rfl 3 rfl ?_
  refine gl_iconst (pc := 249) (v := 2) C dL_law_249 (by decide) ?_
  refine gl_iadd (pc := 250) C dL_law_250 ?_
  refine gl_sld (pc := 251) C hi2 dL_law_251 ?_
  refine gl_callXi (pc := 252) (As := [.int _, .int _]) C (c_X6_cell C.2.2.2.2.2.2.2.2.2.1 e1) q391 mw_X6_cell ⟨Nat.le_of_ble_eq_true rfl, Nat.le_of_ble_eq_true rfl⟩ rfl rfl rfl (Nat.le_of_ble_eq_true rfl) dL_law_252 ?_
  refine gl_aload_n (pc := 255) C dL_law_255 (i := 2) rfl 2 rfl ?_
  refine gl_aload_n (pc := 256) C dL_law_256 (i := 0) rfl 0 rfl ?_
  refine gl_iload_n (pc := 257) C dL_law_257 (i := 3) rfl 3 rfl ?_
  refine gl_iconst (pc := 258) (v := 1) C dL_law_258 (by decide) ?_
  refine gl_iadd (pc := 259) C dL_law_259 ?_
  refine gl_sld (pc := 260) C hi1 dL_law_260 ?_
  refine gl_aload_n (pc := 261) C dL_law_261 (i := 0) rfl 0 rfl ?_
  refine gl_iload_n (pc := 262) C dL_law_262 (i := 3) rfl 3 rfl ?_
  refine gl_iconst (pc := 263) (v := 2) C dL_law_263 (by decide) ?_
  refine gl_iadd (pc := 264) C dL_law_264 ?_
  refine gl_sld (pc := 265) C hi2 dL_law_265 ?_
  refine gl_callMi (pc := 266) (As := [.int _, .int _]) C (c_X7_cell C.2.2.2.2.2.2.2.2.2.2.1 e2) q979 mw_X7_cell ⟨Nat.le_of_ble_eq_true rfl, Nat.le_of_ble_eq_true rfl⟩ rfl rfl rfl (Nat.le_of_ble_eq_true rfl) dL_law_266 ?_
  refine gl_eqi (pc := 269) (tgt := 1362) C dL_law_269 (by decide) ?_
  exact hk _ _ hR2
def Ag_stand (Rel : St → St → Prop) : Prop := ∀ SX SM, Rel SX SM → ∀ x1 x2 : Int32, ∃ (r : Int32) (SX2 SM2 : St), m_X6_stand x1 x2 SX = some (r, SX2) ∧ m_X7_stand x1 x2 SM = some (r, SM2) ∧ Rel SX2 SM2
theorem lc_4 (C : CL p s m meth c b L xs D adX adM cI cJ cZ) {x : Int32} {Rel : St → St → Prop} (h : Ag_stand Rel) (hR : Rel SX SM) (hi1 : vp_in (x + 1) L) (hi2 : vp_in (x + 2) L) (hi3 : vp_in (x + 3) L) (hi4 : vp_in (x + 4) L) (hi5 : vp_in (x + 5) L) (hk : ∀ SX SM, Rel SX SM → GL p l e s m below meth c b D adX adM cI cJ cZ SX SM 1362 [(0, .ref b), (1, .ref (adX 0)), (2, .ref (adM 0)), (3, .int x)] []) : GL p l e s m below meth c b D adX adM cI cJ cZ SX SM 274 [(0, .ref b), (1, .ref (adX 0)), (2, .ref (adM 0)), (3, .int x)] [] := by
  obtain ⟨r, SX2, SM2, e1, e2, hR2⟩ := h SX SM hR (xs (x + 1).toNatClampNeg) (xs (x + 2).toNatClampNeg)
  refine gl_aload_n (pc := 274) C dL_law_274 (i := 1) rfl 1 rfl ?_
  refine gl_aload_n (pc := 275) C dL_law_275 (i := 0) rfl 0 rfl ?_
  refine gl_iload_n (pc := 276) C dL_law_276 (i := 3) rfl 3 rfl ?_
  refine gl_iconst (pc := 277) (v := 1) C dL_law_277 (by decide) ?_
  refine gl_iadd (pc := 278) C dL_law_278 ?_
  refine gl_sld (pc := 279) C hi1 dL_law_279 ?_
  refine gl_aload_n (pc := 280) C dL_law_280 (i := 0) rfl 0 rfl ?_
  refine gl_iload_n (pc := 281) C dL_law_281 (i := 3) rfl 3 rfl ?_
  refine gl_iconst (pc := 282) (v := 2) C dL_law_282 (by decide) ?_
  refine gl_iadd (pc := 283) C dL_law_283 ?_
  refine gl_sld (pc := 284) C hi2 dL_law_284 ?_
  refine gl_callXi (pc := 285) (As := [.int _, .int _]) C (c_X6_stand C.2.2.2.2.2.2.2.2.2.1 e1) q408 mw_X6_stand ⟨Nat.le_of_ble_eq_true rfl, Nat.le_of_ble_eq_true rfl⟩ rfl rfl rfl (Nat.le_of_ble_eq_true rfl) dL_law_285 ?_
  refine gl_aload_n (pc := 288) C dL_law_288 (i := 2) rfl 2 rfl ?_
  refine gl_aload_n (pc := 289) C dL_law_289 (i := 0) rfl 0 rfl ?_
  refine gl_iload_n (pc := 290) C dL_law_290 (i := 3) rfl 3 rfl ?_
  refine gl_iconst (pc := 291) (v := 1) C dL_law_291 (by decide) ?_
  refine gl_iadd (pc := 292) C dL_law_292 ?_
  refine gl_sld (pc := 293) C hi1 dL_law_293 ?_
  refine gl_aload_n (pc := 294) C dL_law_294 (i := 0) rfl 0 rfl ?_
  refine gl_iload_n (pc := 295) C dL_law_295 (i := 3) rfl 3 rfl ?_
  refine gl_iconst (pc := 296) (v := 2) C dL_law_296 (by decide) ?_
  refine gl_iadd (pc := 297) C dL_law_297 ?_
  refine gl_sld (pc := 298) C hi2 dL_law_298 ?_
  refine gl_callMi (pc := 299) (As := [.int _, .int _]) C (c_X7_stand C.2.2.2.2.2.2.2.2.2.2.1 e2) q991 mw_X7_stand ⟨Nat.le_of_ble_eq_true rfl, Nat.le_of_ble_eq_true rfl⟩ rfl rfl rfl (Nat.le_of_ble_eq_true rfl) dL_law_299 ?_
  refine gl_eqi (pc := 302) (tgt := 1362) C dL_law_302 (by decide) ?_
  exact hk _ _ hR2
def Ag_owner (Rel : St → St → Prop) : Prop := ∀ SX SM, Rel SX SM → ∀ x1 x2 : Int32, ∃ (r : Int32) (SX2 SM2 : St), m_X6_owner x1 x2 SX = some (r, SX2) ∧ m_X7_owner x1 x2 SM = some (r, SM2) ∧ Rel SX2 SM2
theorem lc_5 (C : CL p s m meth c b L xs D adX adM cI cJ cZ) {x : Int32} {Rel : St → St → Prop} (h : Ag_owner Rel) (hR : Rel SX SM) (hi1 : vp_in (x + 1) L) (hi2 : vp_in (x + 2) L) (hi3 : vp_in (x + 3) L) (hi4 : vp_in (x + 4) L) (hi5 : vp_in (x + 5) L) (hk : ∀ SX SM, Rel SX SM → GL p l e s m below meth c b D adX adM cI cJ cZ SX SM 1362 [(0, .ref b), (1, .ref (adX 0)), (2, .ref (adM 0)), (3, .int x)] []) : GL p l e s m below meth c b D adX adM cI cJ cZ SX SM 307 [(0, .ref b), (1, .ref (adX 0)), (2, .ref (adM 0)), (3, .int x)] [] := by
  obtain ⟨r, SX2, SM2, e1, e2, hR2⟩ := h SX SM hR (xs (x + 1).toNatClampNeg) (xs (x + 2).toNatClampNeg)
  refine gl_aload_n (pc := 307) C dL_law_307 (i := 1) rfl 1 rfl ?_
  refine gl_aload_n (pc := 308) C dL_law_308 (i := 0) rfl 0 rfl ?_
  refine gl_iload_n (pc := 309) C dL_law_309 (i := 3) rfl 3 rfl ?_
  refine gl_iconst (pc := 310) (v := 1) C dL_law_310 (by decide) ?_
  refine gl_iadd (pc := 311) C dL_law_311 ?_
  refine gl_sld (pc := 312) C hi1 dL_law_312 ?_
  refine gl_aload_n (pc := 313) C dL_law_313 (i := 0) rfl 0 rfl ?_
  refine gl_iload_n (pc := 314) C dL_law_314 (i := 3) rfl 3 rfl ?_
  refine gl_iconst (pc := 315) (v := 2) C dL_law_315 (by decide) ?_
  refine gl_iadd (pc := 316) C dL_law_316 ?_
  refine gl_sld (pc := 317) C hi2 dL_law_317 ?_
  refine gl_callXi (pc := 318) (As := [.int _, .int _]) C (c_X6_owner C.2.2.2.2.2.2.2.2.2.1 e1) q416 mw_X6_owner ⟨Nat.le_of_ble_eq_true rfl, Nat.le_of_ble_eq_true rfl⟩ rfl rfl rfl (Nat.le_of_ble_eq_true rfl) dL_law_318 ?_
  refine gl_aload_n (pc := 321) C dL_law_321 (i := 2) rfl 2 rfl ?_
  refine gl_aload_n (pc := 322) C dL_law_322 (i := 0) rfl 0 rfl ?_
  refine gl_iload_n (pc := 323) C dL_law_323 (i := 3) rfl 3 rfl ?_
  refine gl_iconst (pc := 324) (v := 1) C dL_law_324 (by decide) ?_
  refine gl_iadd (pc := 325) C dL_law_325 ?_
  refine gl_sld (pc := 326) C hi1 dL_law_326 ?_
  refine gl_aload_n (pc := 327) C dL_law_327 (i := 0) rfl 0 rfl ?_
  refine gl_iload_n (pc := 328) C dL_law_328 (i := 3) rfl 3 rfl ?_
  refine gl_iconst (pc := 329) (v := 2) C dL_law_329 (by decide) ?_
  refine gl_iadd (pc := 330) C dL_law_330 ?_
  refine gl_sld (pc := 331) C hi2 dL_law_331 ?_
  refine gl_callMi (pc := 332) (As := [.int _, .int _]) C (c_X7_owner C.2.2.2.2.2.2.2.2.2.2.1 e2) q998 mw_X7_owner ⟨Nat.le_of_ble_eq_true rfl, Nat.le_of_ble_eq_true rfl⟩ rfl rfl rfl (Nat.le_of_ble_eq_true rfl) dL_law_332 ?_
  refine gl_eqi (pc := 335) (tgt := 1362) C dL_law_335 (by decide) ?_
  exact hk _ _ hR2
def Ag_read (Rel : St → St → Prop) : Prop := ∀ SX SM, Rel SX SM → ∀ x1 : Int32, ∃ (r : Int32) (SX2 SM2 : St), m_X6_read x1 SX = some (r, SX2) ∧ m_X7_read x1 SM = some (r, SM2) ∧ Rel SX2 SM2
theorem lc_6 (C : CL p s m meth c b L xs D adX adM cI cJ cZ) {x : Int32} {Rel : St → St → Prop} (h : Ag_read Rel) (hR : Rel SX SM) (hi1 : vp_in (x + 1) L) (hi2 : vp_in (x + 2) L) (hi3 : vp_in (x + 3) L) (hi4 : vp_in (x + 4) L) (hi5 : vp_in (x + 5) L) (hk : ∀ SX SM, Rel SX SM → GL p l e s m below meth c b D adX adM cI cJ cZ SX SM 1362 [(0, .ref b), (1, .ref (adX 0)), (2, .ref (adM 0)), (3, .int x)] []) : GL p l e s m below meth c b D adX adM cI cJ cZ SX SM 340 [(0, .ref b), (1, .ref (adX 0)), (2, .ref (adM 0)), (3, .int x)] [] := by
  obtain ⟨r, SX2, SM2, e1, e2, hR2⟩ := h SX SM hR (xs (x + 1).toNatClampNeg)
  refine gl_aload_n (pc := 340) C dL_law_340 (i := 1) rfl 1 rfl ?_
  refine gl_aload_n (pc := 341) C dL_law_341 (i := 0) rfl 0 rfl ?_
  refine gl_iload_n (pc := 342) C dL_law_342 (i := 3) rfl 3 rfl ?_
  refine gl_iconst (pc := 343) (v := 1) C dL_law_343 (by decide) ?_
  refine gl_iadd (pc := 344) C dL_law_344 ?_
  refine gl_sld (pc := 345) C hi1 dL_law_345 ?_
  refine gl_callXi (pc := 346) (As := [.int _]) C (c_X6_read C.2.2.2.2.2.2.2.2.2.1 e1) q420 mw_X6_read ⟨Nat.le_of_ble_eq_true rfl, Nat.le_of_ble_eq_true rfl⟩ rfl rfl rfl (Nat.le_of_ble_eq_true rfl) dL_law_346 ?_
  refine gl_aload_n (pc := 349) C dL_law_349 (i := 2) rfl 2 rfl ?_
  refine gl_aload_n (pc := 350) C dL_law_350 (i := 0) rfl 0 rfl ?_
  refine gl_iload_n (pc := 351) C dL_law_351 (i := 3) rfl 3 rfl ?_
  refine gl_iconst (pc := 352) (v := 1) C dL_law_352 (by decide) ?_
  refine gl_iadd (pc := 353) C dL_law_353 ?_
  refine gl_sld (pc := 354) C hi1 dL_law_354 ?_
  refine gl_callMi (pc := 355) (As := [.int _]) C (c_X7_read C.2.2.2.2.2.2.2.2.2.2.1 e2) q1005 mw_X7_read ⟨Nat.le_of_ble_eq_true rfl, Nat.le_of_ble_eq_true rfl⟩ rfl rfl rfl (Nat.le_of_ble_eq_true rfl) dL_law_355 ?_
  refine gl_eqi (pc := 358) (tgt := 1362) C dL_law_358 (by decide) ?_
  exact hk _ _ hR2
def Ag_days (Rel : St → St → Prop) : Prop := ∀ SX SM, Rel SX SM → ∀ x1 x2 : Int32, ∃ (r : Int32) (SX2 SM2 : St), m_X6_days x1 x2 SX = some (r, SX2) ∧ m_X7_days x1 x2 SM = some (r, SM2) ∧ Rel SX2 SM2
theorem lc_7 (C : CL p s m meth c b L xs D adX adM cI cJ cZ) {x : Int32} {Rel : St → St → Prop} (h : Ag_days Rel) (hR : Rel SX SM) (hi1 : vp_in (x + 1) L) (hi2 : vp_in (x + 2) L) (hi3 : vp_in (x + 3) L) (hi4 : vp_in (x + 4) L) (hi5 : vp_in (x + 5) L) (hk : ∀ SX SM, Rel SX SM → GL p l e s m below meth c b D adX adM cI cJ cZ SX SM 1362 [(0, .ref b), (1, .ref (adX 0)), (2, .ref (adM 0)), (3, .int x)] []) : GL p l e s m below meth c b D adX adM cI cJ cZ SX SM 363 [(0, .ref b), (1, .ref (adX 0)), (2, .ref (adM 0)), (3, .int x)] [] := by
  obtain ⟨r, SX2, SM2, e1, e2, hR2⟩ := h SX SM hR (xs (x + 1).toNatClampNeg) (xs (x + 2).toNatClampNeg)
  refine gl_aload_n (pc := 363) C dL_law_363 (i := 1) rfl 1 rfl ?_
  refine gl_aload_n (pc := 364) C dL_law_364 (i := 0) rfl 0 rfl ?_
  refine gl_iload_n (pc := 365) C dL_law_365 (i := 3) rfl 3 rfl ?_
  refine gl_iconst (pc := 366) (v := 1) C dL_law_366 (by decide) ?_
  refine gl_iadd (pc := 367) C dL_law_367 ?_
  refine gl_sld (pc := 368) C hi1 dL_law_368 ?_
  refine gl_aload_n (pc := 369) C dL_law_369 (i := 0) rfl 0 rfl ?_
  refine gl_iload_n (pc := 370) C dL_law_370 (i := 3) rfl 3 rfl ?_
  refine gl_iconst (pc := 371) (v := 2) C dL_law_371 (by decide) ?_
  refine gl_iadd (pc := 372) C dL_law_372 ?_
  refine gl_sld (pc := 373) C hi2 dL_law_373 ?_
  refine gl_callXi (pc := 374) (As := [.int _, .int _]) C (c_X6_days C.2.2.2.2.2.2.2.2.2.1 e1) q443 mw_X6_days ⟨Nat.le_of_ble_eq_true rfl, Nat.le_of_ble_eq_true rfl⟩ rfl rfl rfl (Nat.le_of_ble_eq_true rfl) dL_law_374 ?_
  refine gl_aload_n (pc := 377) C dL_law_377 (i := 2) rfl 2 rfl ?_
  refine gl_aload_n (pc := 378) C dL_law_378 (i := 0) rfl 0 rfl ?_
  refine gl_iload_n (pc := 379) C dL_law_379 (i := 3) rfl 3 rfl ?_
  refine gl_iconst (pc := 380) (v := 1) C dL_law_380 (by decide) ?_
  refine gl_iadd (pc := 381) C dL_law_381 ?_
  refine gl_sld (pc := 382) C hi1 dL_law_382 ?_
  refine gl_aload_n (pc := 383) C dL_law_383 (i := 0) rfl 0 rfl ?_
  refine gl_iload_n (pc := 384) C dL_law_384 (i := 3) rfl 3 rfl ?_
  refine gl_iconst (pc := 385) (v := 2) C dL_law_385 (by decide) ?_
  refine gl_iadd (pc := 386) C dL_law_386 ?_
  refine gl_sld (pc := 387) C hi2 dL_law_387 ?_
  refine gl_callMi (pc := 388) (As := [.int _, .int _]) C (c_X7_days C.2.2.2.2.2.2.2.2.2.2.1 e2) q1016 mw_X7_days ⟨Nat.le_of_ble_eq_true rfl, Nat.le_of_ble_eq_true rfl⟩ rfl rfl rfl (Nat.le_of_ble_eq_true rfl) dL_law_388 ?_
  refine gl_eqi (pc := 391) (tgt := 1362) C dL_law_391 (by decide) ?_
  exact hk _ _ hR2
def Ag_steep (Rel : St → St → Prop) : Prop := ∀ SX SM, Rel SX SM → ∀ x1 x2 : Int32, ∃ (r : Int32) (SX2 SM2 : St), m_X6_steep x1 x2 SX = some (r, SX2) ∧ m_X7_steep x1 x2 SM = some (r, SM2) ∧ Rel SX2 SM2
theorem lc_8 (C : CL p s m meth c b L xs D adX adM cI cJ cZ) {x : Int32} {Rel : St → St → Prop} (h : Ag_steep Rel) (hR : Rel SX SM) (hi1 : vp_in (x + 1) L) (hi2 : vp_in (x + 2) L) (hi3 : vp_in (x + 3) L) (hi4 : vp_in (x + 4) L) (hi5 : vp_in (x + 5) L) (hk : ∀ SX SM, Rel SX SM → GL p l e s m below meth c b D adX adM cI cJ cZ SX SM 1362 [(0, .ref b), (1, .ref (adX 0)), (2, .ref (adM 0)), (3, .int x)] []) : GL p l e s m below meth c b D adX adM cI cJ cZ SX SM 396 [(0, .ref b), (1, .ref (adX 0)), (2, .ref (adM 0)), (3, .int x)] [] := by
  obtain ⟨r, SX2, SM2, e1, e2, hR2⟩ := h SX SM hR (xs (x + 1).toNatClampNeg) (xs (x + 2).toNatClampNeg)
  refine gl_aload_n (pc := 396) C dL_law_396 (i := 1) rfl 1 rfl ?_
  refine gl_aload_n (pc := 397) C dL_law_397 (i := 0) rfl 0 rfl ?_
  refine gl_iload_n (pc := 398) C dL_law_398 (i := 3) rfl 3 rfl ?_
  refine gl_iconst (pc := 399) (v := 1) C dL_law_399 (by decide) ?_
  refine gl_iadd (pc := 400) C dL_law_400 ?_
  refine gl_sld (pc := 401) C hi1 dL_law_401 ?_
  refine gl_aload_n (pc := 402) C dL_law_402 (i := 0) rfl 0 rfl ?_
  refine gl_iload_n (pc := 403) C dL_law_403 (i := 3) rfl 3 rfl ?_
  refine gl_iconst (pc := 404) (v := 2) C dL_law_404 (by decide) ?_
  refine gl_iadd (pc := 405) C dL_law_405 ?_
  refine gl_sld (pc := 406) C hi2 dL_law_406 ?_
  refine gl_callXi (pc := 407) (As := [.int _, .int _]) C (c_X6_steep C.2.2.2.2.2.2.2.2.2.1 e1) q451 mw_X6_steep ⟨Nat.le_of_ble_eq_true rfl, Nat.le_of_ble_eq_true rfl⟩ rfl rfl rfl (Nat.le_of_ble_eq_true rfl) dL_law_407 ?_
  refine gl_aload_n (pc := 410) C dL_law_410 (i := 2) rfl 2 rfl ?_
  refine gl_aload_n (pc := 411) C dL_law_411 (i := 0) rfl 0 rfl ?_
  refine gl_iload_n (pc := 412) C dL_law_412 (i := 3) rfl 3 rfl ?_
  refine gl_iconst (pc := 413) (v := 1) C dL_law_413 (by decide) ?_
  refine gl_iadd (pc := 414) C dL_law_414 ?_
  refine gl_sld (pc := 415) C hi1 dL_law_415 ?_
  refine gl_aload_n (pc := 416) C dL_law_416 (i := 0) rfl 0 rfl ?_
  refine gl_iload_n (pc := 417) C dL_law_417 (i := 3) rfl 3 rfl ?_
  refine gl_iconst (pc := 418) (v := 2) C dL_law_418 (by decide) ?_
  refine gl_iadd (pc := 419) C dL_law_419 ?_
  refine gl_sld (pc := 420) C hi2 dL_law_420 ?_
  refine gl_callMi (pc := 421) (As := [.int _, .int _]) C (c_X7_steep C.2.2.2.2.2.2.2.2.2.2.1 e2) q1020 mw_X7_steep ⟨Nat.le_of_ble_eq_true rfl, Nat.le_of_ble_eq_true rfl⟩ rfl rfl rfl (Nat.le_of_ble_eq_true rfl) dL_law_421 ?_
  refine gl_eqi (pc := 424) (tgt := 1362) C dL_law_424 (by decide) ?_
  exact hk _ _ hR2
def Ag_shade (Rel : St → St → Prop) : Prop := ∀ SX SM, Rel SX SM → ∀ x1 x2 x3 : Int32, ∃ (r : Int32) (SX2 SM2 : St), m_X6_shade x1 x2 x3 SX = some (r, SX2) ∧ m_X7_shade x1 x2 x3 SM = some (r, SM2) ∧ Rel SX2 SM2
theorem lc_9 (C : CL p s m meth c b L xs D adX adM cI cJ cZ) {x : Int32} {Rel : St → St → Prop} (h : Ag_shade Rel) (hR : Rel SX SM) (hi1 : vp_in (x + 1) L) (hi2 : vp_in (x + 2) L) (hi3 : vp_in (x + 3) L) (hi4 : vp_in (x + 4) L) (hi5 : vp_in (x + 5) L) (hk : ∀ SX SM, Rel SX SM → GL p l e s m below meth c b D adX adM cI cJ cZ SX SM 1362 [(0, .ref b), (1, .ref (adX 0)), (2, .ref (adM 0)), (3, .int x)] []) : GL p l e s m below meth c b D adX adM cI cJ cZ SX SM 429 [(0, .ref b), (1, .ref (adX 0)), (2, .ref (adM 0)), (3, .int x)] [] := by
  obtain ⟨r, SX2, SM2, e1, e2, hR2⟩ := h SX SM hR (xs (x + 1).toNatClampNeg) (xs (x + 2).toNatClampNeg) (xs (x + 3).toNatClampNeg)
  refine gl_aload_n (pc := 429) C dL_law_429 (i := 1) rfl 1 rfl ?_
  refine gl_aload_n (pc := 430) C dL_law_430 (i := 0) rfl 0 rfl ?_
  refine gl_iload_n (pc := 431) C dL_law_431 (i := 3) rfl 3 rfl ?_
  refine gl_iconst (pc := 432) (v := 1) C dL_law_432 (by decide) ?_
  refine gl_iadd (pc := 433) C dL_law_433 ?_
  refine gl_sld (pc := 434) C hi1 dL_law_434 ?_
  refine gl_aload_n (pc := 435) C dL_law_435 (i := 0) rfl 0 rfl ?_
  refine gl_iload_n (pc := 436) C dL_law_436 (i := 3) rfl 3 rfl ?_
  refine gl_iconst (pc := 437) (v := 2) C dL_law_437 (by decide) ?_
  refine gl_iadd (pc := 438) C dL_law_438 ?_
  refine gl_sld (pc := 439) C hi2 dL_law_439 ?_
  refine gl_aload_n (pc := 440) C dL_law_440 (i := 0) rfl 0 rfl ?_
  refine gl_iload_n (pc := 441) C dL_law_441 (i := 3) rfl 3 rfl ?_
  refine gl_iconst (pc := 442) (v := 3) C dL_law_442 (by decide) ?_
  refine gl_iadd (pc := 443) C dL_law_443 ?_
  refine gl_sld (pc := 444) C hi3 dL_law_444 ?_
  refine gl_callXi (pc := 445) (As := [.int _, .int _, .int _]) C (c_X6_shade C.2.2.2.2.2.2.2.2.2.1 e1) q458 mw_X6_shade ⟨Nat.le_of_ble_eq_true rfl, Nat.le_of_ble_eq_true rfl⟩ rfl rfl rfl (Nat.le_of_ble_eq_true rfl) dL_law_445 ?_
  refine gl_aload_n (pc := 448) C dL_law_448 (i := 2) rfl 2 rfl ?_
  refine gl_aload_n (pc := 449) C dL_law_449 (i := 0) rfl 0 rfl ?_
  refine gl_iload_n (pc := 450) C dL_law_450 (i := 3) rfl 3 rfl ?_
  refine gl_iconst (pc := 451) (v := 1) C dL_law_451 (by decide) ?_
  refine gl_iadd (pc := 452) C dL_law_452 ?_
  refine gl_sld (pc := 453) C hi1 dL_law_453 ?_
  refine gl_aload_n (pc := 454) C dL_law_454 (i := 0) rfl 0 rfl ?_
  refine gl_iload_n (pc := 455) C dL_law_455 (i := 3) rfl 3 rfl ?_
  refine gl_iconst (pc := 456) (v := 2) C dL_law_456 (by decide) ?_
  refine gl_iadd (pc := 457) C dL_law_457 ?_
  refine gl_sld (pc := 458) C hi2 dL_law_458 ?_
  refine gl_aload_n (pc := 459) C dL_law_459 (i := 0) rfl 0 rfl ?_
  refine gl_iload_n (pc := 460) C dL_law_460 (i := 3) rfl 3 rfl ?_
  refine gl_iconst (pc := 461) (v := 3) C dL_law_461 (by decide) ?_
  refine gl_iadd (pc := 462) C dL_law_462 ?_
  refine gl_sld (pc := 463) C hi3 dL_law_463 ?_
  refine gl_callMi (pc := 464) (As := [.int _, .int _, .int _]) C (c_X7_shade C.2.2.2.2.2.2.2.2.2.2.1 e2) q1027 mw_X7_shade ⟨Nat.le_of_ble_eq_true rfl, Nat.le_of_ble_eq_true rfl⟩ rfl rfl rfl (Nat.le_of_ble_eq_true rfl) dL_law_464 ?_
  refine gl_eqi (pc := 467) (tgt := 1362) C dL_law_467 (by decide) ?_
  exact hk _ _ hR2
def Ag_light (Rel : St → St → Prop) : Prop := ∀ SX SM, Rel SX SM → ∀ x1 x2 : Int32, ∃ (r : Int32) (SX2 SM2 : St), m_X6_light x1 x2 SX = some (r, SX2) ∧ m_X7_light x1 x2 SM = some (r, SM2) ∧ Rel SX2 SM2
theorem lc_10 (C : CL p s m meth c b L xs D adX adM cI cJ cZ) {x : Int32} {Rel : St → St → Prop} (h : Ag_light Rel) (hR : Rel SX SM) (hi1 : vp_in (x + 1) L) (hi2 : vp_in (x + 2) L) (hi3 : vp_in (x + 3) L) (hi4 : vp_in (x + 4) L) (hi5 : vp_in (x + 5) L) (hk : ∀ SX SM, Rel SX SM → GL p l e s m below meth c b D adX adM cI cJ cZ SX SM 1362 [(0, .ref b), (1, .ref (adX 0)), (2, .ref (adM 0)), (3, .int x)] []) : GL p l e s m below meth c b D adX adM cI cJ cZ SX SM 472 [(0, .ref b), (1, .ref (adX 0)), (2, .ref (adM 0)), (3, .int x)] [] := by
  obtain ⟨r, SX2, SM2, e1, e2, hR2⟩ := h SX SM hR (xs (x + 1).toNatClampNeg) (xs (x + 2).toNatClampNeg)
  refine gl_aload_n (pc := 472) C dL_law_472 (i := 1) rfl 1 rfl ?_
  refine gl_aload_n (pc := 473) C dL_law_473 (i := 0) rfl 0 rfl ?_
  refine gl_iload_n (pc := 474) C dL_law_474 (i := 3) rfl 3 rfl ?_
  refine gl_iconst (pc := 475) (v := 1) C dL_law_475 (by decide) ?_
  refine gl_iadd (pc := 476) C dL_law_476 ?_
  refine gl_sld (pc := 477) C hi1 dL_law_477 ?_
  refine gl_aload_n (pc := 478) C dL_law_478 (i := 0) rfl 0 rfl ?_
  refine gl_iload_n (pc := 479) C dL_law_479 (i := 3) rfl 3 rfl ?_
  refine gl_iconst (pc := 480) (v := 2) C dL_law_480 (by decide) ?_
  refine gl_iadd (pc := 481) C dL_law_481 ?_
  refine gl_sld (pc := 482) C hi2 dL_law_482 ?_
  refine gl_callXi (pc := 483) (As := [.int _, .int _]) C (c_X6_light C.2.2.2.2.2.2.2.2.2.1 e1) q467 mw_X6_light ⟨Nat.le_of_ble_eq_true rfl, Nat.le_of_ble_eq_true rfl⟩ rfl rfl rfl (Nat.le_of_ble_eq_true rfl) dL_law_483 ?_
  refine gl_aload_n (pc := 486) C dL_law_486 (i := 2) rfl 2 rfl ?_
  refine gl_aload_n (pc := 487) C dL_law_487 (i := 0) rfl 0 rfl ?_
  refine gl_iload_n (pc := 488) C dL_law_488 (i := 3) rfl 3 rfl ?_
  refine gl_iconst (pc := 489) (v := 1) C dL_law_489 (by decide) ?_
  refine gl_iadd (pc := 490) C dL_law_490 ?_
  refine gl_sld (pc := 491) C hi1 dL_law_491 ?_
  refine gl_aload_n (pc := 492) C dL_law_492 (i := 0) rfl 0 rfl ?_
  refine gl_iload_n (pc := 493) C dL_law_493 (i := 3) rfl 3 rfl ?_
  refine gl_iconst (pc := 494) (v := 2) C dL_law_494 (by decide) ?_
  refine gl_iadd (pc := 495) C dL_law_495 ?_
  refine gl_sld (pc := 496) C hi2 dL_law_496 ?_
  refine gl_callMi (pc := 497) (As := [.int _, .int _]) C (c_X7_light C.2.2.2.2.2.2.2.2.2.2.1 e2) q1035 mw_X7_light ⟨Nat.le_of_ble_eq_true rfl, Nat.le_of_ble_eq_true rfl⟩ rfl rfl rfl (Nat.le_of_ble_eq_true rfl) dL_law_497 ?_
  refine gl_eqi (pc := 500) (tgt := 1362) C dL_law_500 (by decide) ?_
  exact hk _ _ hR2
def Ag_hours (Rel : St → St → Prop) : Prop := ∀ SX SM, Rel SX SM → ∀ x1 x2 : Int32, ∃ (r : Int32) (SX2 SM2 : St), m_X6_hours x1 x2 SX = some (r, SX2) ∧ m_X7_hours x1 x2 SM = some (r, SM2) ∧ Rel SX2 SM2
theorem lc_11 (C : CL p s m meth c b L xs D adX adM cI cJ cZ) {x : Int32} {Rel : St → St → Prop} (h : Ag_hours Rel) (hR : Rel SX SM) (hi1 : vp_in (x + 1) L) (hi2 : vp_in (x + 2) L) (hi3 : vp_in (x + 3) L) (hi4 : vp_in (x + 4) L) (hi5 : vp_in (x + 5) L) (hk : ∀ SX SM, Rel SX SM → GL p l e s m below meth c b D adX adM cI cJ cZ SX SM 1362 [(0, .ref b), (1, .ref (adX 0)), (2, .ref (adM 0)), (3, .int x)] []) : GL p l e s m below meth c b D adX adM cI cJ cZ SX SM 505 [(0, .ref b), (1, .ref (adX 0)), (2, .ref (adM 0)), (3, .int x)] [] := by
  obtain ⟨r, SX2, SM2, e1, e2, hR2⟩ := h SX SM hR (xs (x + 1).toNatClampNeg) (xs (x + 2).toNatClampNeg)
  refine gl_aload_n (pc := 505) C dL_law_505 (i := 1) rfl 1 rfl ?_
  refine gl_aload_n (pc := 506) C dL_law_506 (i := 0) rfl 0 rfl ?_
  refine gl_iload_n (pc := 507) C dL_law_507 (i := 3) rfl 3 rfl ?_
  refine gl_iconst (pc := 508) (v := 1) C dL_law_508 (by decide) ?_
  refine gl_iadd (pc := 509) C dL_law_509 ?_
  refine gl_sld (pc := 510) C hi1 dL_law_510 ?_
  refine gl_aload_n (pc := 511) C dL_law_511 (i := 0) rfl 0 rfl ?_
  refine gl_iload_n (pc := 512) C dL_law_512 (i := 3) rfl 3 rfl ?_
  refine gl_iconst (pc := 513) (v := 2) C dL_law_513 (by decide) ?_
  refine gl_iadd (pc := 514) C dL_law_514 ?_
  refine gl_sld (pc := 515) C hi2 dL_law_515 ?_
  refine gl_callXi (pc := 516) (As := [.int _, .int _]) C (c_X6_hours C.2.2.2.2.2.2.2.2.2.1 e1) q475 mw_X6_hours ⟨Nat.le_of_ble_eq_true rfl, Nat.le_of_ble_eq_true rfl⟩ rfl rfl rfl (Nat.le_of_ble_eq_true rfl) dL_law_516 ?_
  refine gl_aload_n (pc := 519) C dL_law_519 (i := 2) rfl 2 rfl ?_
  refine gl_aload_n (pc := 520) C dL_law_520 (i := 0) rfl 0 rfl ?_
  refine gl_iload_n (pc := 521) C dL_law_521 (i := 3) rfl 3 rfl ?_
  refine gl_iconst (pc := 522) (v := 1) C dL_law_522 (by decide) ?_
  refine gl_iadd (pc := 523) C dL_law_523 ?_
  refine gl_sld (pc := 524) C hi1 dL_law_524 ?_
  refine gl_aload_n (pc := 525) C dL_law_525 (i := 0) rfl 0 rfl ?_
  refine gl_iload_n (pc := 526) C dL_law_526 (i := 3) rfl 3 rfl ?_
  refine gl_iconst (pc := 527) (v := 2) C dL_law_527 (by decide) ?_
  refine gl_iadd (pc := 528) C dL_law_528 ?_
  refine gl_sld (pc := 529) C hi2 dL_law_529 ?_
  refine gl_callMi (pc := 530) (As := [.int _, .int _]) C (c_X7_hours C.2.2.2.2.2.2.2.2.2.2.1 e2) q1043 mw_X7_hours ⟨Nat.le_of_ble_eq_true rfl, Nat.le_of_ble_eq_true rfl⟩ rfl rfl rfl (Nat.le_of_ble_eq_true rfl) dL_law_530 ?_
  refine gl_eqi (pc := 533) (tgt := 1362) C dL_law_533 (by decide) ?_
  exact hk _ _ hR2
def Ag_has (Rel : St → St → Prop) : Prop := ∀ SX SM, Rel SX SM → ∀ x1 x2 : Int32, ∃ (r : Int32) (SX2 SM2 : St), m_X6_has x1 x2 SX = some (r, SX2) ∧ m_X7_has x1 x2 SM = some (r, SM2) ∧ Rel SX2 SM2
theorem lc_12 (C : CL p s m meth c b L xs D adX adM cI cJ cZ) {x : Int32} {Rel : St → St → Prop} (h : Ag_has Rel) (hR : Rel SX SM) (hi1 : vp_in (x + 1) L) (hi2 : vp_in (x + 2) L) (hi3 : vp_in (x + 3) L) (hi4 : vp_in (x + 4) L) (hi5 : vp_in (x + 5) L) (hk : ∀ SX SM, Rel SX SM → GL p l e s m below meth c b D adX adM cI cJ cZ SX SM 1362 [(0, .ref b), (1, .ref (adX 0)), (2, .ref (adM 0)), (3, .int x)] []) : GL p l e s m below meth c b D adX adM cI cJ cZ SX SM 538 [(0, .ref b), (1, .ref (adX 0)), (2, .ref (adM 0)), (3, .int x)] [] := by
  obtain ⟨r, SX2, SM2, e1, e2, hR2⟩ := h SX SM hR (xs (x + 1).toNatClampNeg) (xs (x + 2).toNatClampNeg)
  refine gl_aload_n (pc := 538) C dL_law_538 (i := 1) rfl 1 rfl ?_
  refine gl_aload_n (pc := 539) C dL_law_539 (i := 0) rfl 0 rfl ?_
  refine gl_iload_n (pc := 540) C dL_law_540 (i := 3) rfl 3 rfl ?_
  refine gl_iconst (pc := 541) (v := 1) C dL_law_541 (by decide) ?_
  refine gl_iadd (pc := 542) C dL_law_542 ?_
  refine gl_sld (pc := 543) C hi1 dL_law_543 ?_
  refine gl_aload_n (pc := 544) C dL_law_544 (i := 0) rfl 0 rfl ?_
  refine gl_iload_n (pc := 545) C dL_law_545 (i := 3) rfl 3 rfl ?_
  refine gl_iconst (pc := 546) (v := 2) C dL_law_546 (by decide) ?_
  refine gl_iadd (pc := 547) C dL_law_547 ?_
  refine gl_sld (pc := 548) C hi2 dL_law_548 ?_
  refine gl_callXi (pc := 549) (As := [.int _, .int _]) C (c_X6_has C.2.2.2.2.2.2.2.2.2.1 e1) q487 mw_X6_has ⟨Nat.le_of_ble_eq_true rfl, Nat.le_of_ble_eq_true rfl⟩ rfl rfl rfl (Nat.le_of_ble_eq_true rfl) dL_law_549 ?_
  refine gl_aload_n (pc := 552) C dL_law_552 (i := 2) rfl 2 rfl ?_
  refine gl_aload_n (pc := 553) C dL_law_553 (i := 0) rfl 0 rfl ?_
  refine gl_iload_n (pc := 554) C dL_law_554 (i := 3) rfl 3 rfl ?_
  refine gl_iconst (pc := 555) (v := 1) C dL_law_555 (by decide) ?_
  refine gl_iadd (pc := 556) C dL_law_556 ?_
  refine gl_sld (pc := 557) C hi1 dL_law_557 ?_
  refine gl_aload_n (pc := 558) C dL_law_558 (i := 0) rfl 0 rfl ?_
  refine gl_iload_n (pc := 559) C dL_law_559 (i := 3) rfl 3 rfl ?_
  refine gl_iconst (pc := 560) (v := 2) C dL_law_560 (by decide) ?_
  refine gl_iadd (pc := 561) C dL_law_561 ?_
  refine gl_sld (pc := 562) C hi2 dL_law_562 ?_
  refine gl_callMi (pc := 563) (As := [.int _, .int _]) C (c_X7_has C.2.2.2.2.2.2.2.2.2.2.1 e2) q1058 mw_X7_has ⟨Nat.le_of_ble_eq_true rfl, Nat.le_of_ble_eq_true rfl⟩ rfl rfl rfl (Nat.le_of_ble_eq_true rfl) dL_law_563 ?_
  refine gl_eqi (pc := 566) (tgt := 1362) C dL_law_566 (by decide) ?_
  exact hk _ _ hR2
def Ag_parts (Rel : St → St → Prop) : Prop := ∀ SX SM, Rel SX SM → ∀ x1 : Int32, ∃ (r : Int32) (SX2 SM2 : St), m_X6_parts x1 SX = some (r, SX2) ∧ m_X7_parts x1 SM = some (r, SM2) ∧ Rel SX2 SM2
theorem lc_13 (C : CL p s m meth c b L xs D adX adM cI cJ cZ) {x : Int32} {Rel : St → St → Prop} (h : Ag_parts Rel) (hR : Rel SX SM) (hi1 : vp_in (x + 1) L) (hi2 : vp_in (x + 2) L) (hi3 : vp_in (x + 3) L) (hi4 : vp_in (x + 4) L) (hi5 : vp_in (x + 5) L) (hk : ∀ SX SM, Rel SX SM → GL p l e s m below meth c b D adX adM cI cJ cZ SX SM 1362 [(0, .ref b), (1, .ref (adX 0)), (2, .ref (adM 0)), (3, .int x)] []) : GL p l e s m below meth c b D adX adM cI cJ cZ SX SM 571 [(0, .ref b), (1, .ref (adX 0)), (2, .ref (adM 0)), (3, .int x)] [] := by
  obtain ⟨r, SX2, SM2, e1, e2, hR2⟩ := h SX SM hR (xs (x + 1).toNatClampNeg)
  refine gl_aload_n (pc := 571) C dL_law_571 (i := 1) rfl 1 rfl ?_
  refine gl_aload_n (pc := 572) C dL_law_572 (i := 0) rfl 0 rfl ?_
  refine gl_iload_n (pc := 573) C dL_law_573 (i := 3) rfl 3 rfl ?_
  refine gl_iconst (pc := 574) (v := 1) C dL_law_574 (by decide) ?_
  refine gl_iadd (pc := 575) C dL_law_575 ?_
  refine gl_sld (pc := 576) C hi1 dL_law_576 ?_
  refine gl_callXi (pc := 577) (As := [.int _]) C (c_X6_parts C.2.2.2.2.2.2.2.2.2.1 e1) q491 mw_X6_parts ⟨Nat.le_of_ble_eq_true rfl, Nat.le_of_ble_eq_true rfl⟩ rfl rfl rfl (Nat.le_of_ble_eq_true rfl) dL_law_577 ?_
  refine gl_aload_n (pc := 580) C dL_law_580 (i := 2) rfl 2 rfl ?_
  refine gl_aload_n (pc := 581) C dL_law_581 (i := 0) rfl 0 rfl ?_
  refine gl_iload_n (pc := 582) C dL_law_582 (i := 3) rfl 3 rfl ?_
  refine gl_iconst (pc := 583) (v := 1) C dL_law_583 (by decide) ?_
  refine gl_iadd (pc := 584) C dL_law_584 ?_
  refine gl_sld (pc := 585) C hi1 dL_law_585 ?_
  refine gl_callMi (pc := 586) (As := [.int _]) C (c_X7_parts C.2.2.2.2.2.2.2.2.2.2.1 e2) q1066 mw_X7_parts ⟨Nat.le_of_ble_eq_true rfl, Nat.le_of_ble_eq_true rfl⟩ rfl rfl rfl (Nat.le_of_ble_eq_true rfl) dL_law_586 ?_
  refine gl_eqi (pc := 589) (tgt := 1362) C dL_law_589 (by decide) ?_
  exact hk _ _ hR2
def Ag_taken (Rel : St → St → Prop) : Prop := ∀ SX SM, Rel SX SM → ∀ x1 x2 x3 : Int32, ∃ (r : Int32) (SX2 SM2 : St), m_X6_taken x1 x2 x3 SX = some (r, SX2) ∧ m_X7_taken x1 x2 x3 SM = some (r, SM2) ∧ Rel SX2 SM2
theorem lc_14 (C : CL p s m meth c b L xs D adX adM cI cJ cZ) {x : Int32} {Rel : St → St → Prop} (h : Ag_taken Rel) (hR : Rel SX SM) (hi1 : vp_in (x + 1) L) (hi2 : vp_in (x + 2) L) (hi3 : vp_in (x + 3) L) (hi4 : vp_in (x + 4) L) (hi5 : vp_in (x + 5) L) (hk : ∀ SX SM, Rel SX SM → GL p l e s m below meth c b D adX adM cI cJ cZ SX SM 1362 [(0, .ref b), (1, .ref (adX 0)), (2, .ref (adM 0)), (3, .int x)] []) : GL p l e s m below meth c b D adX adM cI cJ cZ SX SM 594 [(0, .ref b), (1, .ref (adX 0)), (2, .ref (adM 0)), (3, .int x)] [] := by
  obtain ⟨r, SX2, SM2, e1, e2, hR2⟩ := h SX SM hR (xs (x + 1).toNatClampNeg) (xs (x + 2).toNatClampNeg) (xs (x + 3).toNatClampNeg)
  refine gl_aload_n (pc := 594) C dL_law_594 (i := 1) rfl 1 rfl ?_
  refine gl_aload_n (pc := 595) C dL_law_595 (i := 0) rfl 0 rfl ?_
  refine gl_iload_n (pc := 596) C dL_law_596 (i := 3) rfl 3 rfl ?_
  refine gl_iconst (pc := 597) (v := 1) C dL_law_597 (by decide) ?_
  refine gl_iadd (pc := 598) C dL_law_598 ?_
  refine gl_sld (pc := 599) C hi1 dL_law_599 ?_
  refine gl_aload_n (pc := 600) C dL_law_600 (i := 0) rfl 0 rfl ?_
  refine gl_iload_n (pc := 601) C dL_law_601 (i := 3) rfl 3 rfl ?_
  refine gl_iconst (pc := 602) (v := 2) C dL_law_602 (by decide) ?_
  refine gl_iadd (pc := 603) C dL_law_603 ?_
  refine gl_sld (pc := 604) C hi2 dL_law_604 ?_
  refine gl_aload_n (pc := 605) C dL_law_605 (i := 0) rfl 0 rfl ?_
  refine gl_iload_n (pc := 606) C dL_law_606 (i := 3) rfl 3 rfl ?_
  refine gl_iconst (pc := 607) (v := 3) C dL_law_607 (by decide) ?_
  refine gl_iadd (pc := 608) C dL_law_608 ?_
  refine gl_sld (pc := 609) C hi3 dL_law_609 ?_
  refine gl_callXi (pc := 610) (As := [.int _, .int _, .int _]) C (c_X6_taken C.2.2.2.2.2.2.2.2.2.1 e1) q555 mw_X6_taken ⟨Nat.le_of_ble_eq_true rfl, Nat.le_of_ble_eq_true rfl⟩ rfl rfl rfl (Nat.le_of_ble_eq_true rfl) dL_law_610 ?_
  refine gl_aload_n (pc := 613) C dL_law_613 (i := 2) rfl 2 rfl ?_
  refine gl_aload_n (pc := 614) C dL_law_614 (i := 0) rfl 0 rfl ?_
  refine gl_iload_n (pc := 615) C dL_law_615 (i := 3) rfl 3 rfl ?_
  refine gl_iconst (pc := 616) (v := 1) C dL_law_616 (by decide) ?_
  refine gl_iadd (pc := 617) C dL_law_617 ?_
  refine gl_sld (pc := 618) C hi1 dL_law_618 ?_
  refine gl_aload_n (pc := 619) C dL_law_619 (i := 0) rfl 0 rfl ?_
  refine gl_iload_n (pc := 620) C dL_law_620 (i := 3) rfl 3 rfl ?_
  refine gl_iconst (pc := 621) (v := 2) C dL_law_621 (by decide) ?_
  refine gl_iadd (pc := 622) C dL_law_622 ?_
  refine gl_sld (pc := 623) C hi2 dL_law_623 ?_
  refine gl_aload_n (pc := 624) C dL_law_624 (i := 0) rfl 0 rfl ?_
  refine gl_iload_n (pc := 625) C dL_law_625 (i := 3) rfl 3 rfl ?_
  refine gl_iconst (pc := 626) (v := 3) C dL_law_626 (by decide) ?_
  refine gl_iadd (pc := 627) C dL_law_627 ?_
  refine gl_sld (pc := 628) C hi3 dL_law_628 ?_
  refine gl_callMi (pc := 629) (As := [.int _, .int _, .int _]) C (c_X7_taken C.2.2.2.2.2.2.2.2.2.2.1 e2) q1105 mw_X7_taken ⟨Nat.le_of_ble_eq_true rfl, Nat.le_of_ble_eq_true rfl⟩ rfl rfl rfl (Nat.le_of_ble_eq_true rfl) dL_law_629 ?_
  refine gl_eqi (pc := 632) (tgt := 1362) C dL_law_632 (by decide) ?_
  exact hk _ _ hR2
def Ag_highest (Rel : St → St → Prop) : Prop := ∀ SX SM, Rel SX SM → ∀ x1 x2 : Int32, ∃ (r : Int32) (SX2 SM2 : St), m_X6_highest x1 x2 SX = some (r, SX2) ∧ m_X7_highest x1 x2 SM = some (r, SM2) ∧ Rel SX2 SM2
theorem lc_15 (C : CL p s m meth c b L xs D adX adM cI cJ cZ) {x : Int32} {Rel : St → St → Prop} (h : Ag_highest Rel) (hR : Rel SX SM) (hi1 : vp_in (x + 1) L) (hi2 : vp_in (x + 2) L) (hi3 : vp_in (x + 3) L) (hi4 : vp_in (x + 4) L) (hi5 : vp_in (x + 5) L) (hk : ∀ SX SM, Rel SX SM → GL p l e s m below meth c b D adX adM cI cJ cZ SX SM 1362 [(0, .ref b), (1, .ref (adX 0)), (2, .ref (adM 0)), (3, .int x)] []) : GL p l e s m below meth c b D adX adM cI cJ cZ SX SM 637 [(0, .ref b), (1, .ref (adX 0)), (2, .ref (adM 0)), (3, .int x)] [] := by
  obtain ⟨r, SX2, SM2, e1, e2, hR2⟩ := h SX SM hR (xs (x + 1).toNatClampNeg) (xs (x + 2).toNatClampNeg)
  refine gl_aload_n (pc := 637) C dL_law_637 (i := 1) rfl 1 rfl ?_
  refine gl_aload_n (pc := 638) C dL_law_638 (i := 0) rfl 0 rfl ?_
  refine gl_iload_n (pc := 639) C dL_law_639 (i := 3) rfl 3 rfl ?_
  refine gl_iconst (pc := 640) (v := 1) C dL_law_640 (by decide) ?_
  refine gl_iadd (pc := 641) C dL_law_641 ?_
  refine gl_sld (pc := 642) C hi1 dL_law_642 ?_
  refine gl_aload_n (pc := 643) C dL_law_643 (i := 0) rfl 0 rfl ?_
  refine gl_iload_n (pc := 644) C dL_law_644 (i := 3) rfl 3 rfl ?_
  refine gl_iconst (pc := 645) (v := 2) C dL_law_645 (by decide) ?_
  refine gl_iadd (pc := 646) C dL_law_646 ?_
  refine gl_sld (pc := 647) C hi2 dL_law_647 ?_
  refine gl_callXi (pc := 648) (As := [.int _, .int _]) C (c_X6_highest C.2.2.2.2.2.2.2.2.2.1 e1) q570 mw_X6_highest ⟨Nat.le_of_ble_eq_true rfl, Nat.le_of_ble_eq_true rfl⟩ rfl rfl rfl (Nat.le_of_ble_eq_true rfl) dL_law_648 ?_
  refine gl_aload_n (pc := 651) C dL_law_651 (i := 2) rfl 2 rfl ?_
  refine gl_aload_n (pc := 652) C dL_law_652 (i := 0) rfl 0 rfl ?_
  refine gl_iload_n (pc := 653) C dL_law_653 (i := 3) rfl 3 rfl ?_
  refine gl_iconst (pc := 654) (v := 1) C dL_law_654 (by decide) ?_
  refine gl_iadd (pc := 655) C dL_law_655 ?_
  refine gl_sld (pc := 656) C hi1 dL_law_656 ?_
  refine gl_aload_n (pc := 657) C dL_law_657 (i := 0) rfl 0 rfl ?_
  refine gl_iload_n (pc := 658) C dL_law_658 (i := 3) rfl 3 rfl ?_
  refine gl_iconst (pc := 659) (v := 2) C dL_law_659 (by decide) ?_
  refine gl_iadd (pc := 660) C dL_law_660 ?_
  refine gl_sld (pc := 661) C hi2 dL_law_661 ?_
  refine gl_callMi (pc := 662) (As := [.int _, .int _]) C (c_X7_highest C.2.2.2.2.2.2.2.2.2.2.1 e2) q1114 mw_X7_highest ⟨Nat.le_of_ble_eq_true rfl, Nat.le_of_ble_eq_true rfl⟩ rfl rfl rfl (Nat.le_of_ble_eq_true rfl) dL_law_662 ?_
  refine gl_eqi (pc := 665) (tgt := 1362) C dL_law_665 (by decide) ?_
  exact hk _ _ hR2
def Ag_again (Rel : St → St → Prop) : Prop := ∀ SX SM, Rel SX SM → ∀ x1 x2 x3 : Int32, ∃ (r : Int32) (SX2 SM2 : St), m_X6_again x1 x2 x3 SX = some (r, SX2) ∧ m_X7_again x1 x2 x3 SM = some (r, SM2) ∧ Rel SX2 SM2
theorem lc_16 (C : CL p s m meth c b L xs D adX adM cI cJ cZ) {x : Int32} {Rel : St → St → Prop} (h : Ag_again Rel) (hR : Rel SX SM) (hi1 : vp_in (x + 1) L) (hi2 : vp_in (x + 2) L) (hi3 : vp_in (x + 3) L) (hi4 : vp_in (x + 4) L) (hi5 : vp_in (x + 5) L) (hk : ∀ SX SM, Rel SX SM → GL p l e s m below meth c b D adX adM cI cJ cZ SX SM 1362 [(0, .ref b), (1, .ref (adX 0)), (2, .ref (adM 0)), (3, .int x)] []) : GL p l e s m below meth c b D adX adM cI cJ cZ SX SM 670 [(0, .ref b), (1, .ref (adX 0)), (2, .ref (adM 0)), (3, .int x)] [] := by
  obtain ⟨r, SX2, SM2, e1, e2, hR2⟩ := h SX SM hR (xs (x + 1).toNatClampNeg) (xs (x + 2).toNatClampNeg) (xs (x + 3).toNatClampNeg)
  refine gl_aload_n (pc := 670) C dL_law_670 (i := 1) rfl 1 rfl ?_
  refine gl_aload_n (pc := 671) C dL_law_671 (i := 0) rfl 0 rfl ?_
  refine gl_iload_n (pc := 672) C dL_law_672 (i := 3) rfl 3 rfl ?_
  refine gl_iconst (pc := 673) (v := 1) C dL_law_673 (by decide) ?_
  refine gl_iadd (pc := 674) C dL_law_674 ?_
  refine gl_sld (pc := 675) C hi1 dL_law_675 ?_
  refine gl_aload_n (pc := 676) C dL_law_676 (i := 0) rfl 0 rfl ?_
  refine gl_iload_n (pc := 677) C dL_law_677 (i := 3) rfl 3 rfl ?_
  refine gl_iconst (pc := 678) (v := 2) C dL_law_678 (by decide) ?_
  refine gl_iadd (pc := 679) C dL_law_679 ?_
  refine gl_sld (pc := 680) C hi2 dL_law_680 ?_
  refine gl_aload_n (pc := 681) C dL_law_681 (i := 0) rfl 0 rfl ?_
  refine gl_iload_n (pc := 682) C dL_law_682 (i := 3) rfl 3 rfl ?_
  refine gl_iconst (pc := 683) (v := 3) C dL_law_683 (by decide) ?_
  refine gl_iadd (pc := 684) C dL_law_684 ?_
  refine gl_sld (pc := 685) C hi3 dL_law_685 ?_
  refine gl_callXi (pc := 686) (As := [.int _, .int _, .int _]) C (c_X6_again C.2.2.2.2.2.2.2.2.2.1 e1) q582 mw_X6_again ⟨Nat.le_of_ble_eq_true rfl, Nat.le_of_ble_eq_true rfl⟩ rfl rfl rfl (Nat.le_of_ble_eq_true rfl) dL_law_686 ?_
  refine gl_aload_n (pc := 689) C dL_law_689 (i := 2) rfl 2 rfl ?_
  refine gl_aload_n (pc := 690) C dL_law_690 (i := 0) rfl 0 rfl ?_
  refine gl_iload_n (pc := 691) C dL_law_691 (i := 3) rfl 3 rfl ?_
  refine gl_iconst (pc := 692) (v := 1) C dL_law_692 (by decide) ?_
  refine gl_iadd (pc := 693) C dL_law_693 ?_
  refine gl_sld (pc := 694) C hi1 dL_law_694 ?_
  refine gl_aload_n (pc := 695) C dL_law_695 (i := 0) rfl 0 rfl ?_
  refine gl_iload_n (pc := 696) C dL_law_696 (i := 3) rfl 3 rfl ?_
  refine gl_iconst (pc := 697) (v := 2) C dL_law_697 (by decide) ?_
  refine gl_iadd (pc := 698) C dL_law_698 ?_
  refine gl_sld (pc := 699) C hi2 dL_law_699 ?_
  refine gl_aload_n (pc := 700) C dL_law_700 (i := 0) rfl 0 rfl ?_
  refine gl_iload_n (pc := 701) C dL_law_701 (i := 3) rfl 3 rfl ?_
  refine gl_iconst (pc := 702) (v := 3) C dL_law_702 (by decide) ?_
  refine gl_iadd (pc := 703) C dL_law_703 ?_
  refine gl_sld (pc := 704) C hi3 dL_law_704 ?_
  refine gl_callMi (pc := 705) (As := [.int _, .int _, .int _]) C (c_X7_again C.2.2.2.2.2.2.2.2.2.2.1 e2) q1123 mw_X7_again ⟨Nat.le_of_ble_eq_true rfl, Nat.le_of_ble_eq_true rfl⟩ rfl rfl rfl (Nat.le_of_ble_eq_true rfl) dL_law_705 ?_
  refine gl_eqi (pc := 708) (tgt := 1362) C dL_law_708 (by decide) ?_
  exact hk _ _ hR2
def Ag_worth (Rel : St → St → Prop) : Prop := ∀ SX SM, Rel SX SM → ∀ x1 x2 x3 : Int32, ∃ (r : Int32) (SX2 SM2 : St), m_X6_worth x1 x2 x3 SX = some (r, SX2) ∧ m_X7_worth x1 x2 x3 SM = some (r, SM2) ∧ Rel SX2 SM2
theorem lc_17 (C : CL p s m meth c b L xs D adX adM cI cJ cZ) {x : Int32} {Rel : St → St → Prop} (h : Ag_worth Rel) (hR : Rel SX SM) (hi1 : vp_in (x + 1) L) (hi2 : vp_in (x + 2) L) (hi3 : vp_in (x + 3) L) (hi4 : vp_in (x + 4) L) (hi5 : vp_in (x + 5) L) (hk : ∀ SX SM, Rel SX SM → GL p l e s m below meth c b D adX adM cI cJ cZ SX SM 1362 [(0, .ref b), (1, .ref (adX 0)), (2, .ref (adM 0)), (3, .int x)] []) : GL p l e s m below meth c b D adX adM cI cJ cZ SX SM 713 [(0, .ref b), (1, .ref (adX 0)), (2, .ref (adM 0)), (3, .int x)] [] := by
  obtain ⟨r, SX2, SM2, e1, e2, hR2⟩ := h SX SM hR (xs (x + 1).toNatClampNeg) (xs (x + 2).toNatClampNeg) (xs (x + 3).toNatClampNeg)
  refine gl_aload_n (pc := 713) C dL_law_713 (i := 1) rfl 1 rfl ?_
  refine gl_aload_n (pc := 714) C dL_law_714 (i := 0) rfl 0 rfl ?_
  refine gl_iload_n (pc := 715) C dL_law_715 (i := 3) rfl 3 rfl ?_
  refine gl_iconst (pc := 716) (v := 1) C dL_law_716 (by decide) ?_
  refine gl_iadd (pc := 717) C dL_law_717 ?_
  refine gl_sld (pc := 718) C hi1 dL_law_718 ?_
  refine gl_aload_n (pc := 719) C dL_law_719 (i := 0) rfl 0 rfl ?_
  refine gl_iload_n (pc := 720) C dL_law_720 (i := 3) rfl 3 rfl ?_
  refine gl_iconst (pc := 721) (v := 2) C dL_law_721 (by decide) ?_
  refine gl_iadd (pc := 722) C dL_law_722 ?_
  refine gl_sld (pc := 723) C hi2 dL_law_723 ?_
  refine gl_aload_n (pc := 724) C dL_law_724 (i := 0) rfl 0 rfl ?_
  refine gl_iload_n (pc := 725) C dL_law_725 (i := 3) rfl 3 rfl ?_
  refine gl_iconst (pc := 726) (v := 3) C dL_law_726 (by decide) ?_
  refine gl_iadd (pc := 727) C dL_law_727 ?_
  refine gl_sld (pc := 728) C hi3 dL_law_728 ?_
  refine gl_callXi (pc := 729) (As := [.int _, .int _, .int _]) C (c_X6_worth C.2.2.2.2.2.2.2.2.2.1 e1) q603 mw_X6_worth ⟨Nat.le_of_ble_eq_true rfl, Nat.le_of_ble_eq_true rfl⟩ rfl rfl rfl (Nat.le_of_ble_eq_true rfl) dL_law_729 ?_
  refine gl_aload_n (pc := 732) C dL_law_732 (i := 2) rfl 2 rfl ?_
  refine gl_aload_n (pc := 733) C dL_law_733 (i := 0) rfl 0 rfl ?_
  refine gl_iload_n (pc := 734) C dL_law_734 (i := 3) rfl 3 rfl ?_
  refine gl_iconst (pc := 735) (v := 1) C dL_law_735 (by decide) ?_
  refine gl_iadd (pc := 736) C dL_law_736 ?_
  refine gl_sld (pc := 737) C hi1 dL_law_737 ?_
  refine gl_aload_n (pc := 738) C dL_law_738 (i := 0) rfl 0 rfl ?_
  refine gl_iload_n (pc := 739) C dL_law_739 (i := 3) rfl 3 rfl ?_
  refine gl_iconst (pc := 740) (v := 2) C dL_law_740 (by decide) ?_
  refine gl_iadd (pc := 741) C dL_law_741 ?_
  refine gl_sld (pc := 742) C hi2 dL_law_742 ?_
  refine gl_aload_n (pc := 743) C dL_law_743 (i := 0) rfl 0 rfl ?_
  refine gl_iload_n (pc := 744) C dL_law_744 (i := 3) rfl 3 rfl ?_
  refine gl_iconst (pc := 745) (v := 3) C dL_law_745 (by decide) ?_
  refine gl_iadd (pc := 746) C dL_law_746 ?_
  refine gl_sld (pc := 747) C hi3 dL_law_747 ?_
  refine gl_callMi (pc := 748) (As := [.int _, .int _, .int _]) C (c_X7_worth C.2.2.2.2.2.2.2.2.2.2.1 e2) q1131 mw_X7_worth ⟨Nat.le_of_ble_eq_true rfl, Nat.le_of_ble_eq_true rfl⟩ rfl rfl rfl (Nat.le_of_ble_eq_true rfl) dL_law_748 ?_
  refine gl_eqi (pc := 751) (tgt := 1362) C dL_law_751 (by decide) ?_
  exact hk _ _ hR2
def Ag_value (Rel : St → St → Prop) : Prop := ∀ SX SM, Rel SX SM → ∀ x1 x2 : Int32, ∃ (r : Int32) (SX2 SM2 : St), m_X6_value x1 x2 SX = some (r, SX2) ∧ m_X7_value x1 x2 SM = some (r, SM2) ∧ Rel SX2 SM2
theorem lc_18 (C : CL p s m meth c b L xs D adX adM cI cJ cZ) {x : Int32} {Rel : St → St → Prop} (h : Ag_value Rel) (hR : Rel SX SM) (hi1 : vp_in (x + 1) L) (hi2 : vp_in (x + 2) L) (hi3 : vp_in (x + 3) L) (hi4 : vp_in (x + 4) L) (hi5 : vp_in (x + 5) L) (hk : ∀ SX SM, Rel SX SM → GL p l e s m below meth c b D adX adM cI cJ cZ SX SM 1362 [(0, .ref b), (1, .ref (adX 0)), (2, .ref (adM 0)), (3, .int x)] []) : GL p l e s m below meth c b D adX adM cI cJ cZ SX SM 756 [(0, .ref b), (1, .ref (adX 0)), (2, .ref (adM 0)), (3, .int x)] [] := by
  obtain ⟨r, SX2, SM2, e1, e2, hR2⟩ := h SX SM hR (xs (x + 1).toNatClampNeg) (xs (x + 2).toNatClampNeg)
  refine gl_aload_n (pc := 756) C dL_law_756 (i := 1) rfl 1 rfl ?_
  refine gl_aload_n (pc := 757) C dL_law_757 (i := 0) rfl 0 rfl ?_
  refine gl_iload_n (pc := 758) C dL_law_758 (i := 3) rfl 3 rfl ?_
  refine gl_iconst (pc := 759) (v := 1) C dL_law_759 (by decide) ?_
  refine gl_iadd (pc := 760) C dL_law_760 ?_
  refine gl_sld (pc := 761) C hi1 dL_law_761 ?_
  refine gl_aload_n (pc := 762) C dL_law_762 (i := 0) rfl 0 rfl ?_
  refine gl_iload_n (pc := 763) C dL_law_763 (i := 3) rfl 3 rfl ?_
  refine gl_iconst (pc := 764) (v := 2) C dL_law_764 (by decide) ?_
  refine gl_iadd (pc := 765) C dL_law_765 ?_
  refine gl_sld (pc := 766) C hi2 dL_law_766 ?_
  refine gl_callXi (pc := 767) (As := [.int _, .int _]) C (c_X6_value C.2.2.2.2.2.2.2.2.2.1 e1) q607 mw_X6_value ⟨Nat.le_of_ble_eq_true rfl, Nat.le_of_ble_eq_true rfl⟩ rfl rfl rfl (Nat.le_of_ble_eq_true rfl) dL_law_767 ?_
  refine gl_aload_n (pc := 770) C dL_law_770 (i := 2) rfl 2 rfl ?_
  refine gl_aload_n (pc := 771) C dL_law_771 (i := 0) rfl 0 rfl ?_
  refine gl_iload_n (pc := 772) C dL_law_772 (i := 3) rfl 3 rfl ?_
  refine gl_iconst (pc := 773) (v := 1) C dL_law_773 (by decide) ?_
  refine gl_iadd (pc := 774) C dL_law_774 ?_
  refine gl_sld (pc := 775) C hi1 dL_law_775 ?_
  refine gl_aload_n (pc := 776) C dL_law_776 (i := 0) rfl 0 rfl ?_
  refine gl_iload_n (pc := 777) C dL_law_777 (i := 3) rfl 3 rfl ?_
  refine gl_iconst (pc := 778) (v := 2) C dL_law_778 (by decide) ?_
  refine gl_iadd (pc := 779) C dL_law_779 ?_
  refine gl_sld (pc := 780) C hi2 dL_law_780 ?_
  refine gl_callMi (pc := 781) (As := [.int _, .int _]) C (c_X7_value C.2.2.2.2.2.2.2.2.2.2.1 e2) q1135 mw_X7_value ⟨Nat.le_of_ble_eq_true rfl, Nat.le_of_ble_eq_true rfl⟩ rfl rfl rfl (Nat.le_of_ble_eq_true rfl) dL_law_781 ?_
  refine gl_eqi (pc := 784) (tgt := 1362) C dL_law_784 (by decide) ?_
  exact hk _ _ hR2
def Ag_change (Rel : St → St → Prop) : Prop := ∀ SX SM, Rel SX SM → ∀ x1 x2 : Int32, ∃ (r : Int32) (SX2 SM2 : St), m_X6_change x1 x2 SX = some (r, SX2) ∧ m_X7_change x1 x2 SM = some (r, SM2) ∧ Rel SX2 SM2
theorem lc_19 (C : CL p s m meth c b L xs D adX adM cI cJ cZ) {x : Int32} {Rel : St → St → Prop} (h : Ag_change Rel) (hR : Rel SX SM) (hi1 : vp_in (x + 1) L) (hi2 : vp_in (x + 2) L) (hi3 : vp_in (x + 3) L) (hi4 : vp_in (x + 4) L) (hi5 : vp_in (x + 5) L) (hk : ∀ SX SM, Rel SX SM → GL p l e s m below meth c b D adX adM cI cJ cZ SX SM 1362 [(0, .ref b), (1, .ref (adX 0)), (2, .ref (adM 0)), (3, .int x)] []) : GL p l e s m below meth c b D adX adM cI cJ cZ SX SM 789 [(0, .ref b), (1, .ref (adX 0)), (2, .ref (adM 0)), (3, .int x)] [] := by
  obtain ⟨r, SX2, SM2, e1, e2, hR2⟩ := h SX SM hR (xs (x + 1).toNatClampNeg) (xs (x + 2).toNatClampNeg)
  refine gl_aload_n (pc := 789) C dL_law_789 (i := 1) rfl 1 rfl ?_
  refine gl_aload_n (pc := 790) C dL_law_790 (i := 0) rfl 0 rfl ?_
  refine gl_iload_n (pc := 791) C dL_law_791 (i := 3) rfl 3 rfl ?_
  refine gl_iconst (pc := 792) (v := 1) C dL_law_792 (by decide) ?_
  refine gl_iadd (pc := 793) C dL_law_793 ?_
  refine gl_sld (pc := 794) C hi1 dL_law_794 ?_
  refine gl_aload_n (pc := 795) C dL_law_795 (i := 0) rfl 0 rfl ?_
  refine gl_iload_n (pc := 796) C dL_law_796 (i := 3) rfl 3 rfl ?_
  refine gl_iconst (pc := 797) (v := 2) C dL_law_797 (by decide) ?_
  refine gl_iadd (pc := 798) C dL_law_798 ?_
  refine gl_sld (pc := 799) C hi2 dL_law_799 ?_
  refine gl_callXi (pc := 800) (As := [.int _, .int _]) C (c_X6_change C.2.2.2.2.2.2.2.2.2.1 e1) q619 mw_X6_change ⟨Nat.le_of_ble_eq_true rfl, Nat.le_of_ble_eq_true rfl⟩ rfl rfl rfl (Nat.le_of_ble_eq_true rfl) dL_law_800 ?_
  refine gl_aload_n (pc := 803) C dL_law_803 (i := 2) rfl 2 rfl ?_
  refine gl_aload_n (pc := 804) C dL_law_804 (i := 0) rfl 0 rfl ?_
  refine gl_iload_n (pc := 805) C dL_law_805 (i := 3) rfl 3 rfl ?_
  refine gl_iconst (pc := 806) (v := 1) C dL_law_806 (by decide) ?_
  refine gl_iadd (pc := 807) C dL_law_807 ?_
  refine gl_sld (pc := 808) C hi1 dL_law_808 ?_
  refine gl_aload_n (pc := 809) C dL_law_809 (i := 0) rfl 0 rfl ?_
  refine gl_iload_n (pc := 810) C dL_law_810 (i := 3) rfl 3 rfl ?_
  refine gl_iconst (pc := 811) (v := 2) C dL_law_811 (by decide) ?_
  refine gl_iadd (pc := 812) C dL_law_812 ?_
  refine gl_sld (pc := 813) C hi2 dL_law_813 ?_
  refine gl_callMi (pc := 814) (As := [.int _, .int _]) C (c_X7_change C.2.2.2.2.2.2.2.2.2.2.1 e2) q1143 mw_X7_change ⟨Nat.le_of_ble_eq_true rfl, Nat.le_of_ble_eq_true rfl⟩ rfl rfl rfl (Nat.le_of_ble_eq_true rfl) dL_law_814 ?_
  refine gl_eqi (pc := 817) (tgt := 1362) C dL_law_817 (by decide) ?_
  exact hk _ _ hR2
def Ag_changes (Rel : St → St → Prop) : Prop := ∀ SX SM, Rel SX SM → ∀ x1 : Int32, ∃ (r : Int32) (SX2 SM2 : St), m_X6_changes x1 SX = some (r, SX2) ∧ m_X7_changes x1 SM = some (r, SM2) ∧ Rel SX2 SM2
theorem lc_20 (C : CL p s m meth c b L xs D adX adM cI cJ cZ) {x : Int32} {Rel : St → St → Prop} (h : Ag_changes Rel) (hR : Rel SX SM) (hi1 : vp_in (x + 1) L) (hi2 : vp_in (x + 2) L) (hi3 : vp_in (x + 3) L) (hi4 : vp_in (x + 4) L) (hi5 : vp_in (x + 5) L) (hk : ∀ SX SM, Rel SX SM → GL p l e s m below meth c b D adX adM cI cJ cZ SX SM 1362 [(0, .ref b), (1, .ref (adX 0)), (2, .ref (adM 0)), (3, .int x)] []) : GL p l e s m below meth c b D adX adM cI cJ cZ SX SM 822 [(0, .ref b), (1, .ref (adX 0)), (2, .ref (adM 0)), (3, .int x)] [] := by
  obtain ⟨r, SX2, SM2, e1, e2, hR2⟩ := h SX SM hR (xs (x + 1).toNatClampNeg)
  refine gl_aload_n (pc := 822) C dL_law_822 (i := 1) rfl 1 rfl ?_
  refine gl_aload_n (pc := 823) C dL_law_823 (i := 0) rfl 0 rfl ?_
  refine gl_iload_n (pc := 824) C dL_law_824 (i := 3) rfl 3 rfl ?_
  refine gl_iconst (pc := 825) (v := 1) C dL_law_825 (by decide) ?_
  refine gl_iadd (pc := 826) C dL_law_826 ?_
  refine gl_sld (pc := 827) C hi1 dL_law_827 ?_
  refine gl_callXi (pc := 828) (As := [.int _]) C (c_X6_changes C.2.2.2.2.2.2.2.2.2.1 e1) q631 mw_X6_changes ⟨Nat.le_of_ble_eq_true rfl, Nat.le_of_ble_eq_true rfl⟩ rfl rfl rfl (Nat.le_of_ble_eq_true rfl) dL_law_828 ?_
  refine gl_aload_n (pc := 831) C dL_law_831 (i := 2) rfl 2 rfl ?_
  refine gl_aload_n (pc := 832) C dL_law_832 (i := 0) rfl 0 rfl ?_
  refine gl_iload_n (pc := 833) C dL_law_833 (i := 3) rfl 3 rfl ?_
  refine gl_iconst (pc := 834) (v := 1) C dL_law_834 (by decide) ?_
  refine gl_iadd (pc := 835) C dL_law_835 ?_
  refine gl_sld (pc := 836) C hi1 dL_law_836 ?_
  refine gl_callMi (pc := 837) (As := [.int _]) C (c_X7_changes C.2.2.2.2.2.2.2.2.2.2.1 e2) q1155 mw_X7_changes ⟨Nat.le_of_ble_eq_true rfl, Nat.le_of_ble_eq_true rfl⟩ rfl rfl rfl (Nat.le_of_ble_eq_true rfl) dL_law_837 ?_
  refine gl_eqi (pc := 840) (tgt := 1362) C dL_law_840 (by decide) ?_
  exact hk _ _ hR2
def Ag_sort (Rel : St → St → Prop) : Prop := ∀ SX SM, Rel SX SM → ∀ x1 x2 x3 : Int32, ∃ (r : Int32) (SX2 SM2 : St), m_X6_sort x1 x2 x3 SX = some (r, SX2) ∧ m_X7_sort x1 x2 x3 SM = some (r, SM2) ∧ Rel SX2 SM2
theorem lc_21 (C : CL p s m meth c b L xs D adX adM cI cJ cZ) {x : Int32} {Rel : St → St → Prop} (h : Ag_sort Rel) (hR : Rel SX SM) (hi1 : vp_in (x + 1) L) (hi2 : vp_in (x + 2) L) (hi3 : vp_in (x + 3) L) (hi4 : vp_in (x + 4) L) (hi5 : vp_in (x + 5) L) (hk : ∀ SX SM, Rel SX SM → GL p l e s m below meth c b D adX adM cI cJ cZ SX SM 1362 [(0, .ref b), (1, .ref (adX 0)), (2, .ref (adM 0)), (3, .int x)] []) : GL p l e s m below meth c b D adX adM cI cJ cZ SX SM 845 [(0, .ref b), (1, .ref (adX 0)), (2, .ref (adM 0)), (3, .int x)] [] := by
  obtain ⟨r, SX2, SM2, e1, e2, hR2⟩ := h SX SM hR (xs (x + 1).toNatClampNeg) (xs (x + 2).toNatClampNeg) (xs (x + 3).toNatClampNeg)
  refine gl_aload_n (pc := 845) C dL_law_845 (i := 1) rfl 1 rfl ?_
  refine gl_aload_n (pc := 846) C dL_law_846 (i := 0) rfl 0 rfl ?_
  refine gl_iload_n (pc := 847) C dL_law_847 (i := 3) rfl 3 rfl ?_
  refine gl_iconst (pc := 848) (v := 1) C dL_law_848 (by decide) ?_
  refine gl_iadd (pc := 849) C dL_law_849 ?_
  refine gl_sld (pc := 850) C hi1 dL_law_850 ?_
  refine gl_aload_n (pc := 851) C dL_law_851 (i := 0) rfl 0 rfl ?_
  refine gl_iload_n (pc := 852) C dL_law_852 (i := 3) rfl 3 rfl ?_
  refine gl_iconst (pc := 853) (v := 2) C dL_law_853 (by decide) ?_
  refine gl_iadd (pc := 854) C dL_law_854 ?_
  refine gl_sld (pc := 855) C hi2 dL_law_855 ?_
  refine gl_aload_n (pc := 856) C dL_law_856 (i := 0) rfl 0 rfl ?_
  refine gl_iload_n (pc := 857) C dL_law_857 (i := 3) rfl 3 rfl ?_
  refine gl_iconst (pc := 858) (v := 3) C dL_law_858 (by decide) ?_
  refine gl_iadd (pc := 859) C dL_law_859 ?_
  refine gl_sld (pc := 860) C hi3 dL_law_860 ?_
  refine gl_callXi (pc := 861) (As := [.int _, .int _, .int _]) C (c_X6_sort C.2.2.2.2.2.2.2.2.2.1 e1) q647 mw_X6_sort ⟨Nat.le_of_ble_eq_true rfl, Nat.le_of_ble_eq_true rfl⟩ rfl rfl rfl (Nat.le_of_ble_eq_true rfl) dL_law_861 ?_
  refine gl_aload_n (pc := 864) C dL_law_864 (i := 2) rfl 2 rfl ?_
  refine gl_aload_n (pc := 865) C dL_law_865 (i := 0) rfl 0 rfl ?_
  refine gl_iload_n (pc := 866) C dL_law_866 (i := 3) rfl 3 rfl ?_
  refine gl_iconst (pc := 867) (v := 1) C dL_law_867 (by decide) ?_
  refine gl_iadd (pc := 868) C dL_law_868 ?_
  refine gl_sld (pc := 869) C hi1 dL_law_869 ?_
  refine gl_aload_n (pc := 870) C dL_law_870 (i := 0) rfl 0 rfl ?_
  refine gl_iload_n (pc := 871) C dL_law_871 (i := 3) rfl 3 rfl ?_
  refine gl_iconst (pc := 872) (v := 2) C dL_law_872 (by decide) ?_
  refine gl_iadd (pc := 873) C dL_law_873 ?_
  refine gl_sld (pc := 874) C hi2 dL_law_874 ?_
  refine gl_aload_n (pc := 875) C dL_law_875 (i := 0) rfl 0 rfl ?_
  refine gl_iload_n (pc := 876) C dL_law_876 (i := 3) rfl 3 rfl ?_
  refine gl_iconst (pc := 877) (v := 3) C dL_law_877 (by decide) ?_
  refine gl_iadd (pc := 878) C dL_law_878 ?_
  refine gl_sld (pc := 879) C hi3 dL_law_879 ?_
  refine gl_callMi (pc := 880) (As := [.int _, .int _, .int _]) C (c_X7_sort C.2.2.2.2.2.2.2.2.2.2.1 e2) q1163 mw_X7_sort ⟨Nat.le_of_ble_eq_true rfl, Nat.le_of_ble_eq_true rfl⟩ rfl rfl rfl (Nat.le_of_ble_eq_true rfl) dL_law_880 ?_
  refine gl_eqi (pc := 883) (tgt := 1362) C dL_law_883 (by decide) ?_
  exact hk _ _ hR2
def Ag_set (Rel : St → St → Prop) : Prop := ∀ SX SM, Rel SX SM → ∀ x1 : Int32, ∃ (r : Int32) (SX2 SM2 : St), m_X6_set x1 SX = some (r, SX2) ∧ m_X7_set x1 SM = some (r, SM2) ∧ Rel SX2 SM2
theorem lc_22 (C : CL p s m meth c b L xs D adX adM cI cJ cZ) {x : Int32} {Rel : St → St → Prop} (h : Ag_set Rel) (hR : Rel SX SM) (hi1 : vp_in (x + 1) L) (hi2 : vp_in (x + 2) L) (hi3 : vp_in (x + 3) L) (hi4 : vp_in (x + 4) L) (hi5 : vp_in (x + 5) L) (hk : ∀ SX SM, Rel SX SM → GL p l e s m below meth c b D adX adM cI cJ cZ SX SM 1362 [(0, .ref b), (1, .ref (adX 0)), (2, .ref (adM 0)), (3, .int x)] []) : GL p l e s m below meth c b D adX adM cI cJ cZ SX SM 888 [(0, .ref b), (1, .ref (adX 0)), (2, .ref (adM 0)), (3, .int x)] [] := by
  obtain ⟨r, SX2, SM2, e1, e2, hR2⟩ := h SX SM hR (xs (x + 1).toNatClampNeg)
  refine gl_aload_n (pc := 888) C dL_law_888 (i := 1) rfl 1 rfl ?_
  refine gl_aload_n (pc := 889) C dL_law_889 (i := 0) rfl 0 rfl ?_
  refine gl_iload_n (pc := 890) C dL_law_890 (i := 3) rfl 3 rfl ?_
  refine gl_iconst (pc := 891) (v := 1) C dL_law_891 (by decide) ?_
  refine gl_iadd (pc := 892) C dL_law_892 ?_
  refine gl_sld (pc := 893) C hi1 dL_law_893 ?_
  refine gl_callXi (pc := 894) (As := [.int _]) C (c_X6_set C.2.2.2.2.2.2.2.2.2.1 e1) q659 mw_X6_set ⟨Nat.le_of_ble_eq_true rfl, Nat.le_of_ble_eq_true rfl⟩ rfl rfl rfl (Nat.le_of_ble_eq_true rfl) dL_law_894 ?_
  refine gl_aload_n (pc := 897) C dL_law_897 (i := 2) rfl 2 rfl ?_
  refine gl_aload_n (pc := 898) C dL_law_898 (i := 0) rfl 0 rfl ?_
  refine gl_iload_n (pc := 899) C dL_law_899 (i := 3) rfl 3 rfl ?_
  refine gl_iconst (pc := 900) (v := 1) C dL_law_900 (by decide) ?_
  refine gl_iadd (pc := 901) C dL_law_901 ?_
  refine gl_sld (pc := 902) C hi1 dL_law_902 ?_
  refine gl_callMi (pc := 903) (As := [.int _]) C (c_X7_set C.2.2.2.2.2.2.2.2.2.2.1 e2) q1167 mw_X7_set ⟨Nat.le_of_ble_eq_true rfl, Nat.le_of_ble_eq_true rfl⟩ rfl rfl rfl (Nat.le_of_ble_eq_true rfl) dL_law_903 ?_
  refine gl_eqi (pc := 906) (tgt := 1362) C dL_law_906 (by decide) ?_
  exact hk _ _ hR2
def Ag_seen (Rel : St → St → Prop) : Prop := ∀ SX SM, Rel SX SM → ∀ x1 x2 : Int32, ∃ (r : Int32) (SX2 SM2 : St), m_X6_seen x1 x2 SX = some (r, SX2) ∧ m_X7_seen x1 x2 SM = some (r, SM2) ∧ Rel SX2 SM2
theorem lc_23 (C : CL p s m meth c b L xs D adX adM cI cJ cZ) {x : Int32} {Rel : St → St → Prop} (h : Ag_seen Rel) (hR : Rel SX SM) (hi1 : vp_in (x + 1) L) (hi2 : vp_in (x + 2) L) (hi3 : vp_in (x + 3) L) (hi4 : vp_in (x + 4) L) (hi5 : vp_in (x + 5) L) (hk : ∀ SX SM, Rel SX SM → GL p l e s m below meth c b D adX adM cI cJ cZ SX SM 1362 [(0, .ref b), (1, .ref (adX 0)), (2, .ref (adM 0)), (3, .int x)] []) : GL p l e s m below meth c b D adX adM cI cJ cZ SX SM 911 [(0, .ref b), (1, .ref (adX 0)), (2, .ref (adM 0)), (3, .int x)] [] := by
  obtain ⟨r, SX2, SM2, e1, e2, hR2⟩ := h SX SM hR (xs (x + 1).toNatClampNeg) (xs (x + 2).toNatClampNeg)
  refine gl_aload_n (pc := 911) C dL_law_911 (i := 1) rfl 1 rfl ?_
  refine gl_aload_n (pc := 912) C dL_law_912 (i := 0) rfl 0 rfl ?_
  refine gl_iload_n (pc := 913) C dL_law_913 (i := 3) rfl 3 rfl ?_
  refine gl_iconst (pc := 914) (v := 1) C dL_law_914 (by decide) ?_
  refine gl_iadd (pc := 915) C dL_law_915 ?_
  refine gl_sld (pc := 916) C hi1 dL_law_916 ?_
  refine gl_aload_n (pc := 917) C dL_law_917 (i := 0) rfl 0 rfl ?_
  refine gl_iload_n (pc := 918) C dL_law_918 (i := 3) rfl 3 rfl ?_
  refine gl_iconst (pc := 919) (v := 2) C dL_law_919 (by decide) ?_
  refine gl_iadd (pc := 920) C dL_law_920 ?_
  refine gl_sld (pc := 921) C hi2 dL_law_921 ?_
  refine gl_callXi (pc := 922) (As := [.int _, .int _]) C (c_X6_seen C.2.2.2.2.2.2.2.2.2.1 e1) q698 mw_X6_seen ⟨Nat.le_of_ble_eq_true rfl, Nat.le_of_ble_eq_true rfl⟩ rfl rfl rfl (Nat.le_of_ble_eq_true rfl) dL_law_922 ?_
  refine gl_aload_n (pc := 925) C dL_law_925 (i := 2) rfl 2 rfl ?_
  refine gl_aload_n (pc := 926) C dL_law_926 (i := 0) rfl 0 rfl ?_
  refine gl_iload_n (pc := 927) C dL_law_927 (i := 3) rfl 3 rfl ?_
  refine gl_iconst (pc := 928) (v := 1) C dL_law_928 (by decide) ?_
  refine gl_iadd (pc := 929) C dL_law_929 ?_
  refine gl_sld (pc := 930) C hi1 dL_law_930 ?_
  refine gl_aload_n (pc := 931) C dL_law_931 (i := 0) rfl 0 rfl ?_
  refine gl_iload_n (pc := 932) C dL_law_932 (i := 3) rfl 3 rfl ?_
  refine gl_iconst (pc := 933) (v := 2) C dL_law_933 (by decide) ?_
  refine gl_iadd (pc := 934) C dL_law_934 ?_
  refine gl_sld (pc := 935) C hi2 dL_law_935 ?_
  refine gl_callMi (pc := 936) (As := [.int _, .int _]) C (c_X7_seen C.2.2.2.2.2.2.2.2.2.2.1 e2) q1178 mw_X7_seen ⟨Nat.le_of_ble_eq_true rfl, Nat.le_of_ble_eq_true rfl⟩ rfl rfl rfl (Nat.le_of_ble_eq_true rfl) dL_law_936 ?_
  refine gl_eqi (pc := 939) (tgt := 1362) C dL_law_939 (by decide) ?_
  exact hk _ _ hR2
def Ag_forget (Rel : St → St → Prop) : Prop := ∀ SX SM, Rel SX SM → ∃ (r : Int32) (SX2 SM2 : St), m_X6_forget  SX = some (r, SX2) ∧ m_X7_forget  SM = some (r, SM2) ∧ Rel SX2 SM2
theorem lc_24 (C : CL p s m meth c b L xs D adX adM cI cJ cZ) {x : Int32} {Rel : St → St → Prop} (h : Ag_forget Rel) (hR : Rel SX SM) (hi1 : vp_in (x + 1) L) (hi2 : vp_in (x + 2) L) (hi3 : vp_in (x + 3) L) (hi4 : vp_in (x + 4) L) (hi5 : vp_in (x + 5) L) (hk : ∀ SX SM, Rel SX SM → GL p l e s m below meth c b D adX adM cI cJ cZ SX SM 1362 [(0, .ref b), (1, .ref (adX 0)), (2, .ref (adM 0)), (3, .int x)] []) : GL p l e s m below meth c b D adX adM cI cJ cZ SX SM 944 [(0, .ref b), (1, .ref (adX 0)), (2, .ref (adM 0)), (3, .int x)] [] := by
  obtain ⟨r, SX2, SM2, e1, e2, hR2⟩ := h SX SM hR 
  refine gl_aload_n (pc := 944) C dL_law_944 (i := 1) rfl 1 rfl ?_
  refine gl_callXi (pc := 945) (As := []) C (c_X6_forget C.2.2.2.2.2.2.2.2.2.1 e1) q702 mw_X6_forget ⟨Nat.le_of_ble_eq_true rfl, Nat.le_of_ble_eq_true rfl⟩ rfl rfl rfl (Nat.le_of_ble_eq_true rfl) dL_law_945 ?_
  refine gl_aload_n (pc := 948) C dL_law_948 (i := 2) rfl 2 rfl ?_
  refine gl_callMi (pc := 949) (As := []) C (c_X7_forget C.2.2.2.2.2.2.2.2.2.2.1 e2) q1182 mw_X7_forget ⟨Nat.le_of_ble_eq_true rfl, Nat.le_of_ble_eq_true rfl⟩ rfl rfl rfl (Nat.le_of_ble_eq_true rfl) dL_law_949 ?_
  refine gl_eqi (pc := 952) (tgt := 1362) C dL_law_952 (by decide) ?_
  exact hk _ _ hR2
def Ag_whose (Rel : St → St → Prop) : Prop := ∀ SX SM, Rel SX SM → ∀ x1 : Int32, ∃ (r : Int32) (SX2 SM2 : St), m_X6_whose x1 SX = some (r, SX2) ∧ m_X7_whose x1 SM = some (r, SM2) ∧ Rel SX2 SM2
theorem lc_25 (C : CL p s m meth c b L xs D adX adM cI cJ cZ) {x : Int32} {Rel : St → St → Prop} (h : Ag_whose Rel) (hR : Rel SX SM) (hi1 : vp_in (x + 1) L) (hi2 : vp_in (x + 2) L) (hi3 : vp_in (x + 3) L) (hi4 : vp_in (x + 4) L) (hi5 : vp_in (x + 5) L) (hk : ∀ SX SM, Rel SX SM → GL p l e s m below meth c b D adX adM cI cJ cZ SX SM 1362 [(0, .ref b), (1, .ref (adX 0)), (2, .ref (adM 0)), (3, .int x)] []) : GL p l e s m below meth c b D adX adM cI cJ cZ SX SM 957 [(0, .ref b), (1, .ref (adX 0)), (2, .ref (adM 0)), (3, .int x)] [] := by
  obtain ⟨r, SX2, SM2, e1, e2, hR2⟩ := h SX SM hR (xs (x + 1).toNatClampNeg)
  refine gl_aload_n (pc := 957) C dL_law_957 (i := 1) rfl 1 rfl ?_
  refine gl_aload_n (pc := 958) C dL_law_958 (i := 0) rfl 0 rfl ?_
  refine gl_iload_n (pc := 959) C dL_law_959 (i := 3) rfl 3 rfl ?_
  refine gl_iconst (pc := 960) (v := 1) C dL_law_960 (by decide) ?_
  refine gl_iadd (pc := 961) C dL_law_961 ?_
  refine gl_sld (pc := 962) C hi1 dL_law_962 ?_
  refine gl_callXi (pc := 963) (As := [.int _]) C (c_X6_whose C.2.2.2.2.2.2.2.2.2.1 e1) q706 mw_X6_whose ⟨Nat.le_of_ble_eq_true rfl, Nat.le_of_ble_eq_true rfl⟩ rfl rfl rfl (Nat.le_of_ble_eq_true rfl) dL_law_963 ?_
  refine gl_aload_n (pc := 966) C dL_law_966 (i := 2) rfl 2 rfl ?_
  refine gl_aload_n (pc := 967) C dL_law_967 (i := 0) rfl 0 rfl ?_
  refine gl_iload_n (pc := 968) C dL_law_968 (i := 3) rfl 3 rfl ?_
  refine gl_iconst (pc := 969) (v := 1) C dL_law_969 (by decide) ?_
  refine gl_iadd (pc := 970) C dL_law_970 ?_
  refine gl_sld (pc := 971) C hi1 dL_law_971 ?_
  refine gl_callMi (pc := 972) (As := [.int _]) C (c_X7_whose C.2.2.2.2.2.2.2.2.2.2.1 e2) q1186 mw_X7_whose ⟨Nat.le_of_ble_eq_true rfl, Nat.le_of_ble_eq_true rfl⟩ rfl rfl rfl (Nat.le_of_ble_eq_true rfl) dL_law_972 ?_
  refine gl_eqi (pc := 975) (tgt := 1362) C dL_law_975 (by decide) ?_
  exact hk _ _ hR2
def Ag_clouds (Rel : St → St → Prop) : Prop := ∀ SX SM, Rel SX SM → ∀ x1 x2 : Int32, ∃ (r : Int32) (SX2 SM2 : St), m_X6_clouds x1 x2 SX = some (r, SX2) ∧ m_X7_clouds x1 x2 SM = some (r, SM2) ∧ Rel SX2 SM2
theorem lc_26 (C : CL p s m meth c b L xs D adX adM cI cJ cZ) {x : Int32} {Rel : St → St → Prop} (h : Ag_clouds Rel) (hR : Rel SX SM) (hi1 : vp_in (x + 1) L) (hi2 : vp_in (x + 2) L) (hi3 : vp_in (x + 3) L) (hi4 : vp_in (x + 4) L) (hi5 : vp_in (x + 5) L) (hk : ∀ SX SM, Rel SX SM → GL p l e s m below meth c b D adX adM cI cJ cZ SX SM 1362 [(0, .ref b), (1, .ref (adX 0)), (2, .ref (adM 0)), (3, .int x)] []) : GL p l e s m below meth c b D adX adM cI cJ cZ SX SM 980 [(0, .ref b), (1, .ref (adX 0)), (2, .ref (adM 0)), (3, .int x)] [] := by
  obtain ⟨r, SX2, SM2, e1, e2, hR2⟩ := h SX SM hR (xs (x + 1).toNatClampNeg) (xs (x + 2).toNatClampNeg)
  refine gl_aload_n (pc := 980) C dL_law_980 (i := 1) rfl 1 rfl ?_
  refine gl_aload_n (pc := 981) C dL_law_981 (i := 0) rfl 0 rfl ?_
  refine gl_iload_n (pc := 982) C dL_law_982 (i := 3) rfl 3 rfl ?_
  refine gl_iconst (pc := 983) (v := 1) C dL_law_983 (by decide) ?_
  refine gl_iadd (pc := 984) C dL_law_984 ?_
  refine gl_sld (pc := 985) C hi1 dL_law_985 ?_
  refine gl_aload_n (pc := 986) C dL_law_986 (i := 0) rfl 0 rfl ?_
  refine gl_iload_n (pc := 987) C dL_law_987 (i := 3) rfl 3 rfl ?_
  refine gl_iconst (pc := 988) (v := 2) C dL_law_988 (by decide) ?_
  refine gl_iadd (pc := 989) C dL_law_989 ?_
  refine gl_sld (pc := 990) C hi2 dL_law_990 ?_
  refine gl_callXi (pc := 991) (As := [.int _, .int _]) C (c_X6_clouds C.2.2.2.2.2.2.2.2.2.1 e1) q715 mw_X6_clouds ⟨Nat.le_of_ble_eq_true rfl, Nat.le_of_ble_eq_true rfl⟩ rfl rfl rfl (Nat.le_of_ble_eq_true rfl) dL_law_991 ?_
  refine gl_aload_n (pc := 994) C dL_law_994 (i := 2) rfl 2 rfl ?_
  refine gl_aload_n (pc := 995) C dL_law_995 (i := 0) rfl 0 rfl ?_
  refine gl_iload_n (pc := 996) C dL_law_996 (i := 3) rfl 3 rfl ?_
  refine gl_iconst (pc := 997) (v := 1) C dL_law_997 (by decide) ?_
  refine gl_iadd (pc := 998) C dL_law_998 ?_
  refine gl_sld (pc := 999) C hi1 dL_law_999 ?_
  refine gl_aload_n (pc := 1000) C dL_law_1000 (i := 0) rfl 0 rfl ?_
  refine gl_iload_n (pc := 1001) C dL_law_1001 (i := 3) rfl 3 rfl ?_
  refine gl_iconst (pc := 1002) (v := 2) C dL_law_1002 (by decide) ?_
  refine gl_iadd (pc := 1003) C dL_law_1003 ?_
  refine gl_sld (pc := 1004) C hi2 dL_law_1004 ?_
  refine gl_callMi (pc := 1005) (As := [.int _, .int _]) C (c_X7_clouds C.2.2.2.2.2.2.2.2.2.2.1 e2) q1194 mw_X7_clouds ⟨Nat.le_of_ble_eq_true rfl, Nat.le_of_ble_eq_true rfl⟩ rfl rfl rfl (Nat.le_of_ble_eq_true rfl) dL_law_1005 ?_
  refine gl_eqi (pc := 1008) (tgt := 1362) C dL_law_1008 (by decide) ?_
  exact hk _ _ hR2
def Ag_clear (Rel : St → St → Prop) : Prop := ∀ SX SM, Rel SX SM → ∀ x1 x2 x3 x4 : Int32, ∃ (r : Int64) (SX2 SM2 : St), m_X6_clear x1 x2 x3 x4 SX = some (r, SX2) ∧ m_X7_clear x1 x2 x3 x4 SM = some (r, SM2) ∧ Rel SX2 SM2
theorem lc_27 (C : CL p s m meth c b L xs D adX adM cI cJ cZ) {x : Int32} {Rel : St → St → Prop} (h : Ag_clear Rel) (hR : Rel SX SM) (hi1 : vp_in (x + 1) L) (hi2 : vp_in (x + 2) L) (hi3 : vp_in (x + 3) L) (hi4 : vp_in (x + 4) L) (hi5 : vp_in (x + 5) L) (hk : ∀ SX SM, Rel SX SM → GL p l e s m below meth c b D adX adM cI cJ cZ SX SM 1362 [(0, .ref b), (1, .ref (adX 0)), (2, .ref (adM 0)), (3, .int x)] []) : GL p l e s m below meth c b D adX adM cI cJ cZ SX SM 1013 [(0, .ref b), (1, .ref (adX 0)), (2, .ref (adM 0)), (3, .int x)] [] := by
  obtain ⟨r, SX2, SM2, e1, e2, hR2⟩ := h SX SM hR (xs (x + 1).toNatClampNeg) (xs (x + 2).toNatClampNeg) (xs (x + 3).toNatClampNeg) (xs (x + 4).toNatClampNeg)
  refine gl_aload_n (pc := 1013) C dL_law_1013 (i := 1) rfl 1 rfl ?_
  refine gl_aload_n (pc := 1014) C dL_law_1014 (i := 0) rfl 0 rfl ?_
  refine gl_iload_n (pc := 1015) C dL_law_1015 (i := 3) rfl 3 rfl ?_
  refine gl_iconst (pc := 1016) (v := 1) C dL_law_1016 (by decide) ?_
  refine gl_iadd (pc := 1017) C dL_law_1017 ?_
  refine gl_sld (pc := 1018) C hi1 dL_law_1018 ?_
  refine gl_aload_n (pc := 1019) C dL_law_1019 (i := 0) rfl 0 rfl ?_
  refine gl_iload_n (pc := 1020) C dL_law_1020 (i := 3) rfl 3 rfl ?_
  refine gl_iconst (pc := 1021) (v := 2) C dL_law_1021 (by decide) ?_
  refine gl_iadd (pc := 1022) C dL_law_1022 ?_
  refine gl_sld (pc := 1023) C hi2 dL_law_1023 ?_
  refine gl_aload_n (pc := 1024) C dL_law_1024 (i := 0) rfl 0 rfl ?_
  refine gl_iload_n (pc := 1025) C dL_law_1025 (i := 3) rfl 3 rfl ?_
  refine gl_iconst (pc := 1026) (v := 3) C dL_law_1026 (by decide) ?_
  refine gl_iadd (pc := 1027) C dL_law_1027 ?_
  refine gl_sld (pc := 1028) C hi3 dL_law_1028 ?_
  refine gl_aload_n (pc := 1029) C dL_law_1029 (i := 0) rfl 0 rfl ?_
  refine gl_iload_n (pc := 1030) C dL_law_1030 (i := 3) rfl 3 rfl ?_
  refine gl_iconst (pc := 1031) (v := 4) C dL_law_1031 (by decide) ?_
  refine gl_iadd (pc := 1032) C dL_law_1032 ?_
  refine gl_sld (pc := 1033) C hi4 dL_law_1033 ?_
  refine gl_callXl (pc := 1034) (As := [.int _, .int _, .int _, .int _]) C (c_X6_clear C.2.2.2.2.2.2.2.2.2.1 e1) q719 mw_X6_clear ⟨Nat.le_of_ble_eq_true rfl, Nat.le_of_ble_eq_true rfl⟩ rfl rfl rfl (Nat.le_of_ble_eq_true rfl) dL_law_1034 ?_
  refine gl_aload_n (pc := 1037) C dL_law_1037 (i := 2) rfl 2 rfl ?_
  refine gl_aload_n (pc := 1038) C dL_law_1038 (i := 0) rfl 0 rfl ?_
  refine gl_iload_n (pc := 1039) C dL_law_1039 (i := 3) rfl 3 rfl ?_
  refine gl_iconst (pc := 1040) (v := 1) C dL_law_1040 (by decide) ?_
  refine gl_iadd (pc := 1041) C dL_law_1041 ?_
  refine gl_sld (pc := 1042) C hi1 dL_law_1042 ?_
  refine gl_aload_n (pc := 1043) C dL_law_1043 (i := 0) rfl 0 rfl ?_
  refine gl_iload_n (pc := 1044) C dL_law_1044 (i := 3) rfl 3 rfl ?_
  refine gl_iconst (pc := 1045) (v := 2) C dL_law_1045 (by decide) ?_
  refine gl_iadd (pc := 1046) C dL_law_1046 ?_
  refine gl_sld (pc := 1047) C hi2 dL_law_1047 ?_
  refine gl_aload_n (pc := 1048) C dL_law_1048 (i := 0) rfl 0 rfl ?_
  refine gl_iload_n (pc := 1049) C dL_law_1049 (i := 3) rfl 3 rfl ?_
  refine gl_iconst (pc := 1050) (v := 3) C dL_law_1050 (by decide) ?_
  refine gl_iadd (pc := 1051) C dL_law_1051 ?_
  refine gl_sld (pc := 1052) C hi3 dL_law_1052 ?_
  refine gl_aload_n (pc := 1053) C dL_law_1053 (i := 0) rfl 0 rfl ?_
  refine gl_iload_n (pc := 1054) C dL_law_1054 (i := 3) rfl 3 rfl ?_
  refine gl_iconst (pc := 1055) (v := 4) C dL_law_1055 (by decide) ?_
  refine gl_iadd (pc := 1056) C dL_law_1056 ?_
  refine gl_sld (pc := 1057) C hi4 dL_law_1057 ?_
  refine gl_callMl (pc := 1058) (As := [.int _, .int _, .int _, .int _]) C (c_X7_clear C.2.2.2.2.2.2.2.2.2.2.1 e2) q1198 mw_X7_clear ⟨Nat.le_of_ble_eq_true rfl, Nat.le_of_ble_eq_true rfl⟩ rfl rfl rfl (Nat.le_of_ble_eq_true rfl) dL_law_1058 ?_
  refine gl_eql (pc := 1061) (tgt := 1362) C dL_law_1061 dL_law_1062 (by decide) ?_
  exact hk _ _ hR2
def Ag_sheet (Rel : St → St → Prop) : Prop := ∀ SX SM, Rel SX SM → ∀ x1 x2 x3 : Int32, ∃ (r : Int32) (SX2 SM2 : St), m_X6_sheet x1 x2 x3 SX = some (r, SX2) ∧ m_X7_sheet x1 x2 x3 SM = some (r, SM2) ∧ Rel SX2 SM2
theorem lc_28 (C : CL p s m meth c b L xs D adX adM cI cJ cZ) {x : Int32} {Rel : St → St → Prop} (h : Ag_sheet Rel) (hR : Rel SX SM) (hi1 : vp_in (x + 1) L) (hi2 : vp_in (x + 2) L) (hi3 : vp_in (x + 3) L) (hi4 : vp_in (x + 4) L) (hi5 : vp_in (x + 5) L) (hk : ∀ SX SM, Rel SX SM → GL p l e s m below meth c b D adX adM cI cJ cZ SX SM 1362 [(0, .ref b), (1, .ref (adX 0)), (2, .ref (adM 0)), (3, .int x)] []) : GL p l e s m below meth c b D adX adM cI cJ cZ SX SM 1067 [(0, .ref b), (1, .ref (adX 0)), (2, .ref (adM 0)), (3, .int x)] [] := by
  obtain ⟨r, SX2, SM2, e1, e2, hR2⟩ := h SX SM hR (xs (x + 1).toNatClampNeg) (xs (x + 2).toNatClampNeg) (xs (x + 3).toNatClampNeg)
  refine gl_aload_n (pc := 1067) C dL_law_1067 (i := 1) rfl 1 rfl ?_
  refine gl_aload_n (pc := 1068) C dL_law_1068 (i := 0) rfl 0 rfl ?_
  refine gl_iload_n (pc := 1069) C dL_law_1069 (i := 3) rfl 3 rfl ?_
  refine gl_iconst (pc := 1070) (v := 1) C dL_law_1070 (by decide) ?_
  refine gl_iadd (pc := 1071) C dL_law_1071 ?_
  refine gl_sld (pc := 1072) C hi1 dL_law_1072 ?_
  refine gl_aload_n (pc := 1073) C dL_law_1073 (i := 0) rfl 0 rfl ?_
  refine gl_iload_n (pc := 1074) C dL_law_1074 (i := 3) rfl 3 rfl ?_
  refine gl_iconst (pc := 1075) (v := 2) C dL_law_1075 (by decide) ?_
  refine gl_iadd (pc := 1076) C dL_law_1076 ?_
  refine gl_sld (pc := 1077) C hi2 dL_law_1077 ?_
  refine gl_aload_n (pc := 1078) C dL_law_1078 (i := 0) rfl 0 rfl ?_
  refine gl_iload_n (pc := 1079) C dL_law_1079 (i := 3) rfl 3 rfl ?_
  refine gl_iconst (pc := 1080) (v := 3) C dL_law_1080 (by decide) ?_
  refine gl_iadd (pc := 1081) C dL_law_1081 ?_
  refine gl_sld (pc := 1082) C hi3 dL_law_1082 ?_
  refine gl_callXi (pc := 1083) (As := [.int _, .int _, .int _]) C (c_X6_sheet C.2.2.2.2.2.2.2.2.2.1 e1) q752 mw_X6_sheet ⟨Nat.le_of_ble_eq_true rfl, Nat.le_of_ble_eq_true rfl⟩ rfl rfl rfl (Nat.le_of_ble_eq_true rfl) dL_law_1083 ?_
  refine gl_aload_n (pc := 1086) C dL_law_1086 (i := 2) rfl 2 rfl ?_
  refine gl_aload_n (pc := 1087) C dL_law_1087 (i := 0) rfl 0 rfl ?_
  refine gl_iload_n (pc := 1088) C dL_law_1088 (i := 3) rfl 3 rfl ?_
  refine gl_iconst (pc := 1089) (v := 1) C dL_law_1089 (by decide) ?_
  refine gl_iadd (pc := 1090) C dL_law_1090 ?_
  refine gl_sld (pc := 1091) C hi1 dL_law_1091 ?_
  refine gl_aload_n (pc := 1092) C dL_law_1092 (i := 0) rfl 0 rfl ?_
  refine gl_iload_n (pc := 1093) C dL_law_1093 (i := 3) rfl 3 rfl ?_
  refine gl_iconst (pc := 1094) (v := 2) C dL_law_1094 (by decide) ?_
  refine gl_iadd (pc := 1095) C dL_law_1095 ?_
  refine gl_sld (pc := 1096) C hi2 dL_law_1096 ?_
  refine gl_aload_n (pc := 1097) C dL_law_1097 (i := 0) rfl 0 rfl ?_
  refine gl_iload_n (pc := 1098) C dL_law_1098 (i := 3) rfl 3 rfl ?_
  refine gl_iconst (pc := 1099) (v := 3) C dL_law_1099 (by decide) ?_
  refine gl_iadd (pc := 1100) C dL_law_1100 ?_
  refine gl_sld (pc := 1101) C hi3 dL_law_1101 ?_
  refine gl_callMi (pc := 1102) (As := [.int _, .int _, .int _]) C (c_X7_sheet C.2.2.2.2.2.2.2.2.2.2.1 e2) q1214 mw_X7_sheet ⟨Nat.le_of_ble_eq_true rfl, Nat.le_of_ble_eq_true rfl⟩ rfl rfl rfl (Nat.le_of_ble_eq_true rfl) dL_law_1102 ?_
  refine gl_eqi (pc := 1105) (tgt := 1362) C dL_law_1105 (by decide) ?_
  exact hk _ _ hR2
def Ag_lose (Rel : St → St → Prop) : Prop := ∀ SX SM, Rel SX SM → ∀ x1 : Int32, ∃ (r : Int32) (SX2 SM2 : St), m_X6_lose x1 SX = some (r, SX2) ∧ m_X7_lose x1 SM = some (r, SM2) ∧ Rel SX2 SM2
theorem lc_29 (C : CL p s m meth c b L xs D adX adM cI cJ cZ) {x : Int32} {Rel : St → St → Prop} (h : Ag_lose Rel) (hR : Rel SX SM) (hi1 : vp_in (x + 1) L) (hi2 : vp_in (x + 2) L) (hi3 : vp_in (x + 3) L) (hi4 : vp_in (x + 4) L) (hi5 : vp_in (x + 5) L) (hk : ∀ SX SM, Rel SX SM → GL p l e s m below meth c b D adX adM cI cJ cZ SX SM 1362 [(0, .ref b), (1, .ref (adX 0)), (2, .ref (adM 0)), (3, .int x)] []) : GL p l e s m below meth c b D adX adM cI cJ cZ SX SM 1110 [(0, .ref b), (1, .ref (adX 0)), (2, .ref (adM 0)), (3, .int x)] [] := by
  obtain ⟨r, SX2, SM2, e1, e2, hR2⟩ := h SX SM hR (xs (x + 1).toNatClampNeg)
  refine gl_aload_n (pc := 1110) C dL_law_1110 (i := 1) rfl 1 rfl ?_
  refine gl_aload_n (pc := 1111) C dL_law_1111 (i := 0) rfl 0 rfl ?_
  refine gl_iload_n (pc := 1112) C dL_law_1112 (i := 3) rfl 3 rfl ?_
  refine gl_iconst (pc := 1113) (v := 1) C dL_law_1113 (by decide) ?_
  refine gl_iadd (pc := 1114) C dL_law_1114 ?_
  refine gl_sld (pc := 1115) C hi1 dL_law_1115 ?_
  refine gl_callXi (pc := 1116) (As := [.int _]) C (c_X6_lose C.2.2.2.2.2.2.2.2.2.1 e1) q760 mw_X6_lose ⟨Nat.le_of_ble_eq_true rfl, Nat.le_of_ble_eq_true rfl⟩ rfl rfl rfl (Nat.le_of_ble_eq_true rfl) dL_law_1116 ?_
  refine gl_aload_n (pc := 1119) C dL_law_1119 (i := 2) rfl 2 rfl ?_
  refine gl_aload_n (pc := 1120) C dL_law_1120 (i := 0) rfl 0 rfl ?_
  refine gl_iload_n (pc := 1121) C dL_law_1121 (i := 3) rfl 3 rfl ?_
  refine gl_iconst (pc := 1122) (v := 1) C dL_law_1122 (by decide) ?_
  refine gl_iadd (pc := 1123) C dL_law_1123 ?_
  refine gl_sld (pc := 1124) C hi1 dL_law_1124 ?_
  refine gl_callMi (pc := 1125) (As := [.int _]) C (c_X7_lose C.2.2.2.2.2.2.2.2.2.2.1 e2) q1218 mw_X7_lose ⟨Nat.le_of_ble_eq_true rfl, Nat.le_of_ble_eq_true rfl⟩ rfl rfl rfl (Nat.le_of_ble_eq_true rfl) dL_law_1125 ?_
  refine gl_eqi (pc := 1128) (tgt := 1362) C dL_law_1128 (by decide) ?_
  exact hk _ _ hR2
def Ag_put (Rel : St → St → Prop) : Prop := ∀ SX SM, Rel SX SM → ∀ x1 x2 x3 x4 : Int32, ∃ (r : Int32) (SX2 SM2 : St), m_X6_put x1 x2 x3 x4 SX = some (r, SX2) ∧ m_X7_put x1 x2 x3 x4 SM = some (r, SM2) ∧ Rel SX2 SM2
theorem lc_30 (C : CL p s m meth c b L xs D adX adM cI cJ cZ) {x : Int32} {Rel : St → St → Prop} (h : Ag_put Rel) (hR : Rel SX SM) (hi1 : vp_in (x + 1) L) (hi2 : vp_in (x + 2) L) (hi3 : vp_in (x + 3) L) (hi4 : vp_in (x + 4) L) (hi5 : vp_in (x + 5) L) (hk : ∀ SX SM, Rel SX SM → GL p l e s m below meth c b D adX adM cI cJ cZ SX SM 1362 [(0, .ref b), (1, .ref (adX 0)), (2, .ref (adM 0)), (3, .int x)] []) : GL p l e s m below meth c b D adX adM cI cJ cZ SX SM 1133 [(0, .ref b), (1, .ref (adX 0)), (2, .ref (adM 0)), (3, .int x)] [] := by
  obtain ⟨r, SX2, SM2, e1, e2, hR2⟩ := h SX SM hR (xs (x + 1).toNatClampNeg) (xs (x + 2).toNatClampNeg) (xs (x + 3).toNatClampNeg) (xs (x + 4).toNatClampNeg)
  refine gl_aload_n (pc := 1133) C dL_law_1133 (i := 1) rfl 1 rfl ?_
  refine gl_aload_n (pc := 1134) C dL_law_1134 (i := 0) rfl 0 rfl ?_
  refine gl_iload_n (pc := 1135) C dL_law_1135 (i := 3) rfl 3 rfl ?_
  refine gl_iconst (pc := 1136) (v := 1) C dL_law_1136 (by decide) ?_
  refine gl_iadd (pc := 1137) C dL_law_1137 ?_
  refine gl_sld (pc := 1138) C hi1 dL_law_1138 ?_
  refine gl_aload_n (pc := 1139) C dL_law_1139 (i := 0) rfl 0 rfl ?_
  refine gl_iload_n (pc := 1140) C dL_law_1140 (i := 3) rfl 3 rfl ?_
  refine gl_iconst (pc := 1141) (v := 2) C dL_law_1141 (by decide) ?_
  refine gl_iadd (pc := 1142) C dL_law_1142 ?_
  refine gl_sld (pc := 1143) C hi2 dL_law_1143 ?_
  refine gl_aload_n (pc := 1144) C dL_law_1144 (i := 0) rfl 0 rfl ?_
  refine gl_iload_n (pc := 1145) C dL_law_1145 (i := 3) rfl 3 rfl ?_
  refine gl_iconst (pc := 1146) (v := 3) C dL_law_1146 (by decide) ?_
  refine gl_iadd (pc := 1147) C dL_law_1147 ?_
  refine gl_sld (pc := 1148) C hi3 dL_law_1148 ?_
  refine gl_aload_n (pc := 1149) C dL_law_1149 (i := 0) rfl 0 rfl ?_
  refine gl_iload_n (pc := 1150) C dL_law_1150 (i := 3) rfl 3 rfl ?_
  refine gl_iconst (pc := 1151) (v := 4) C dL_law_1151 (by decide) ?_
  refine gl_iadd (pc := 1152) C dL_law_1152 ?_
  refine gl_sld (pc := 1153) C hi4 dL_law_1153 ?_
  refine gl_callXi (pc := 1154) (As := [.int _, .int _, .int _, .int _]) C (c_X6_put C.2.2.2.2.2.2.2.2.2.1 e1) q768 mw_X6_put ⟨Nat.le_of_ble_eq_true rfl, Nat.le_of_ble_eq_true rfl⟩ rfl rfl rfl (Nat.le_of_ble_eq_true rfl) dL_law_1154 ?_
  refine gl_aload_n (pc := 1157) C dL_law_1157 (i := 2) rfl 2 rfl ?_
  refine gl_aload_n (pc := 1158) C dL_law_1158 (i := 0) rfl 0 rfl ?_
  refine gl_iload_n (pc := 1159) C dL_law_1159 (i := 3) rfl 3 rfl ?_
  refine gl_iconst (pc := 1160) (v := 1) C dL_law_1160 (by decide) ?_
  refine gl_iadd (pc := 1161) C dL_law_1161 ?_
  refine gl_sld (pc := 1162) C hi1 dL_law_1162 ?_
  refine gl_aload_n (pc := 1163) C dL_law_1163 (i := 0) rfl 0 rfl ?_
  refine gl_iload_n (pc := 1164) C dL_law_1164 (i := 3) rfl 3 rfl ?_
  refine gl_iconst (pc := 1165) (v := 2) C dL_law_1165 (by decide) ?_
  refine gl_iadd (pc := 1166) C dL_law_1166 ?_
  refine gl_sld (pc := 1167) C hi2 dL_law_1167 ?_
  refine gl_aload_n (pc := 1168) C dL_law_1168 (i := 0) rfl 0 rfl ?_
  refine gl_iload_n (pc := 1169) C dL_law_1169 (i := 3) rfl 3 rfl ?_
  refine gl_iconst (pc := 1170) (v := 3) C dL_law_1170 (by decide) ?_
  refine gl_iadd (pc := 1171) C dL_law_1171 ?_
  refine gl_sld (pc := 1172) C hi3 dL_law_1172 ?_
  refine gl_aload_n (pc := 1173) C dL_law_1173 (i := 0) rfl 0 rfl ?_
  refine gl_iload_n (pc := 1174) C dL_law_1174 (i := 3) rfl 3 rfl ?_
  refine gl_iconst (pc := 1175) (v := 4) C dL_law_1175 (by decide) ?_
  refine gl_iadd (pc := 1176) C dL_law_1176 ?_
  refine gl_sld (pc := 1177) C hi4 dL_law_1177 ?_
  refine gl_callMi (pc := 1178) (As := [.int _, .int _, .int _, .int _]) C (c_X7_put C.2.2.2.2.2.2.2.2.2.2.1 e2) q1222 mw_X7_put ⟨Nat.le_of_ble_eq_true rfl, Nat.le_of_ble_eq_true rfl⟩ rfl rfl rfl (Nat.le_of_ble_eq_true rfl) dL_law_1178 ?_
  refine gl_eqi (pc := 1181) (tgt := 1362) C dL_law_1181 (by decide) ?_
  exact hk _ _ hR2
def Ag_get (Rel : St → St → Prop) : Prop := ∀ SX SM, Rel SX SM → ∀ x1 x2 x3 : Int32, ∃ (r : Int32) (SX2 SM2 : St), m_X6_get x1 x2 x3 SX = some (r, SX2) ∧ m_X7_get x1 x2 x3 SM = some (r, SM2) ∧ Rel SX2 SM2
theorem lc_31 (C : CL p s m meth c b L xs D adX adM cI cJ cZ) {x : Int32} {Rel : St → St → Prop} (h : Ag_get Rel) (hR : Rel SX SM) (hi1 : vp_in (x + 1) L) (hi2 : vp_in (x + 2) L) (hi3 : vp_in (x + 3) L) (hi4 : vp_in (x + 4) L) (hi5 : vp_in (x + 5) L) (hk : ∀ SX SM, Rel SX SM → GL p l e s m below meth c b D adX adM cI cJ cZ SX SM 1362 [(0, .ref b), (1, .ref (adX 0)), (2, .ref (adM 0)), (3, .int x)] []) : GL p l e s m below meth c b D adX adM cI cJ cZ SX SM 1186 [(0, .ref b), (1, .ref (adX 0)), (2, .ref (adM 0)), (3, .int x)] [] := by
  obtain ⟨r, SX2, SM2, e1, e2, hR2⟩ := h SX SM hR (xs (x + 1).toNatClampNeg) (xs (x + 2).toNatClampNeg) (xs (x + 3).toNatClampNeg)
  refine gl_aload_n (pc := 1186) C dL_law_1186 (i := 1) rfl 1 rfl ?_
  refine gl_aload_n (pc := 1187) C dL_law_1187 (i := 0) rfl 0 rfl ?_
  refine gl_iload_n (pc := 1188) C dL_law_1188 (i := 3) rfl 3 rfl ?_
  refine gl_iconst (pc := 1189) (v := 1) C dL_law_1189 (by decide) ?_
  refine gl_iadd (pc := 1190) C dL_law_1190 ?_
  refine gl_sld (pc := 1191) C hi1 dL_law_1191 ?_
  refine gl_aload_n (pc := 1192) C dL_law_1192 (i := 0) rfl 0 rfl ?_
  refine gl_iload_n (pc := 1193) C dL_law_1193 (i := 3) rfl 3 rfl ?_
  refine gl_iconst (pc := 1194) (v := 2) C dL_law_1194 (by decide) ?_
  refine gl_iadd (pc := 1195) C dL_law_1195 ?_
  refine gl_sld (pc := 1196) C hi2 dL_law_1196 ?_
  refine gl_aload_n (pc := 1197) C dL_law_1197 (i := 0) rfl 0 rfl ?_
  refine gl_iload_n (pc := 1198) C dL_law_1198 (i := 3) rfl 3 rfl ?_
  refine gl_iconst (pc := 1199) (v := 3) C dL_law_1199 (by decide) ?_
  refine gl_iadd (pc := 1200) C dL_law_1200 ?_
  refine gl_sld (pc := 1201) C hi3 dL_law_1201 ?_
  refine gl_callXi (pc := 1202) (As := [.int _, .int _, .int _]) C (c_X6_get C.2.2.2.2.2.2.2.2.2.1 e1) q787 mw_X6_get ⟨Nat.le_of_ble_eq_true rfl, Nat.le_of_ble_eq_true rfl⟩ rfl rfl rfl (Nat.le_of_ble_eq_true rfl) dL_law_1202 ?_
  refine gl_aload_n (pc := 1205) C dL_law_1205 (i := 2) rfl 2 rfl ?_
  refine gl_aload_n (pc := 1206) C dL_law_1206 (i := 0) rfl 0 rfl ?_
  refine gl_iload_n (pc := 1207) C dL_law_1207 (i := 3) rfl 3 rfl ?_
  refine gl_iconst (pc := 1208) (v := 1) C dL_law_1208 (by decide) ?_
  refine gl_iadd (pc := 1209) C dL_law_1209 ?_
  refine gl_sld (pc := 1210) C hi1 dL_law_1210 ?_
  refine gl_aload_n (pc := 1211) C dL_law_1211 (i := 0) rfl 0 rfl ?_
  refine gl_iload_n (pc := 1212) C dL_law_1212 (i := 3) rfl 3 rfl ?_
  refine gl_iconst (pc := 1213) (v := 2) C dL_law_1213 (by decide) ?_
  refine gl_iadd (pc := 1214) C dL_law_1214 ?_
  refine gl_sld (pc := 1215) C hi2 dL_law_1215 ?_
  refine gl_aload_n (pc := 1216) C dL_law_1216 (i := 0) rfl 0 rfl ?_
  refine gl_iload_n (pc := 1217) C dL_law_1217 (i := 3) rfl 3 rfl ?_
  refine gl_iconst (pc := 1218) (v := 3) C dL_law_1218 (by decide) ?_
  refine gl_iadd (pc := 1219) C dL_law_1219 ?_
  refine gl_sld (pc := 1220) C hi3 dL_law_1220 ?_
  refine gl_callMi (pc := 1221) (As := [.int _, .int _, .int _]) C (c_X7_get C.2.2.2.2.2.2.2.2.2.2.1 e2) q1234 mw_X7_get ⟨Nat.le_of_ble_eq_true rfl, Nat.le_of_ble_eq_true rfl⟩ rfl rfl rfl (Nat.le_of_ble_eq_true rfl) dL_law_1221 ?_
  refine gl_eqi (pc := 1224) (tgt := 1362) C dL_law_1224 (by decide) ?_
  exact hk _ _ hR2
def Ag_copy (Rel : St → St → Prop) : Prop := ∀ SX SM, Rel SX SM → ∀ x1 x2 x3 x4 x5 : Int32, ∃ (r : Int32) (SX2 SM2 : St), m_X6_copy x1 x2 x3 x4 x5 SX = some (r, SX2) ∧ m_X7_copy x1 x2 x3 x4 x5 SM = some (r, SM2) ∧ Rel SX2 SM2
theorem lc_32 (C : CL p s m meth c b L xs D adX adM cI cJ cZ) {x : Int32} {Rel : St → St → Prop} (h : Ag_copy Rel) (hR : Rel SX SM) (hi1 : vp_in (x + 1) L) (hi2 : vp_in (x + 2) L) (hi3 : vp_in (x + 3) L) (hi4 : vp_in (x + 4) L) (hi5 : vp_in (x + 5) L) (hk : ∀ SX SM, Rel SX SM → GL p l e s m below meth c b D adX adM cI cJ cZ SX SM 1362 [(0, .ref b), (1, .ref (adX 0)), (2, .ref (adM 0)), (3, .int x)] []) : GL p l e s m below meth c b D adX adM cI cJ cZ SX SM 1229 [(0, .ref b), (1, .ref (adX 0)), (2, .ref (adM 0)), (3, .int x)] [] := by
  obtain ⟨r, SX2, SM2, e1, e2, hR2⟩ := h SX SM hR (xs (x + 1).toNatClampNeg) (xs (x + 2).toNatClampNeg) (xs (x + 3).toNatClampNeg) (xs (x + 4).toNatClampNeg) (xs (x + 5).toNatClampNeg)
  refine gl_aload_n (pc := 1229) C dL_law_1229 (i := 1) rfl 1 rfl ?_
  refine gl_aload_n (pc := 1230) C dL_law_1230 (i := 0) rfl 0 rfl ?_
  refine gl_iload_n (pc := 1231) C dL_law_1231 (i := 3) rfl 3 rfl ?_
  refine gl_iconst (pc := 1232) (v := 1) C dL_law_1232 (by decide) ?_
  refine gl_iadd (pc := 1233) C dL_law_1233 ?_
  refine gl_sld (pc := 1234) C hi1 dL_law_1234 ?_
  refine gl_aload_n (pc := 1235) C dL_law_1235 (i := 0) rfl 0 rfl ?_
  refine gl_iload_n (pc := 1236) C dL_law_1236 (i := 3) rfl 3 rfl ?_
  refine gl_iconst (pc := 1237) (v := 2) C dL_law_1237 (by decide) ?_
  refine gl_iadd (pc := 1238) C dL_law_1238 ?_
  refine gl_sld (pc := 1239) C hi2 dL_law_1239 ?_
  refine gl_aload_n (pc := 1240) C dL_law_1240 (i := 0) rfl 0 rfl ?_
  refine gl_iload_n (pc := 1241) C dL_law_1241 (i := 3) rfl 3 rfl ?_
  refine gl_iconst (pc := 1242) (v := 3) C dL_law_1242 (by decide) ?_
  refine gl_iadd (pc := 1243) C dL_law_1243 ?_
  refine gl_sld (pc := 1244) C hi3 dL_law_1244 ?_
  refine gl_aload_n (pc := 1245) C dL_law_1245 (i := 0) rfl 0 rfl ?_
  refine gl_iload_n (pc := 1246) C dL_law_1246 (i := 3) rfl 3 rfl ?_
  refine gl_iconst (pc := 1247) (v := 4) C dL_law_1247 (by decide) ?_
  refine gl_iadd (pc := 1248) C dL_law_1248 ?_
  refine gl_sld (pc := 1249) C hi4 dL_law_1249 ?_
  refine gl_aload_n (pc := 1250) C dL_law_1250 (i := 0) rfl 0 rfl ?_
  refine gl_iload_n (pc := 1251) C dL_law_1251 (i := 3) rfl 3 rfl ?_
  refine gl_iconst (pc := 1252) (v := 5) C dL_law_1252 (by decide) ?_
  refine gl_iadd (pc := 1253) C dL_law_1253 ?_
  refine gl_sld (pc := 1254) C hi5 dL_law_1254 ?_
  refine gl_callXi (pc := 1255) (As := [.int _, .int _, .int _, .int _, .int _]) C (c_X6_copy C.2.2.2.2.2.2.2.2.2.1 e1) q792 mw_X6_copy ⟨Nat.le_of_ble_eq_true rfl, Nat.le_of_ble_eq_true rfl⟩ rfl rfl rfl (Nat.le_of_ble_eq_true rfl) dL_law_1255 ?_
  refine gl_aload_n (pc := 1258) C dL_law_1258 (i := 2) rfl 2 rfl ?_
  refine gl_aload_n (pc := 1259) C dL_law_1259 (i := 0) rfl 0 rfl ?_
  refine gl_iload_n (pc := 1260) C dL_law_1260 (i := 3) rfl 3 rfl ?_
  refine gl_iconst (pc := 1261) (v := 1) C dL_law_1261 (by decide) ?_
  refine gl_iadd (pc := 1262) C dL_law_1262 ?_
  refine gl_sld (pc := 1263) C hi1 dL_law_1263 ?_
  refine gl_aload_n (pc := 1264) C dL_law_1264 (i := 0) rfl 0 rfl ?_
  refine gl_iload_n (pc := 1265) C dL_law_1265 (i := 3) rfl 3 rfl ?_
  refine gl_iconst (pc := 1266) (v := 2) C dL_law_1266 (by decide) ?_
  refine gl_iadd (pc := 1267) C dL_law_1267 ?_
  refine gl_sld (pc := 1268) C hi2 dL_law_1268 ?_
  refine gl_aload_n (pc := 1269) C dL_law_1269 (i := 0) rfl 0 rfl ?_
  refine gl_iload_n (pc := 1270) C dL_law_1270 (i := 3) rfl 3 rfl ?_
  refine gl_iconst (pc := 1271) (v := 3) C dL_law_1271 (by decide) ?_
  refine gl_iadd (pc := 1272) C dL_law_1272 ?_
  refine gl_sld (pc := 1273) C hi3 dL_law_1273 ?_
  refine gl_aload_n (pc := 1274) C dL_law_1274 (i := 0) rfl 0 rfl ?_
  refine gl_iload_n (pc := 1275) C dL_law_1275 (i := 3) rfl 3 rfl ?_
  refine gl_iconst (pc := 1276) (v := 4) C dL_law_1276 (by decide) ?_
  refine gl_iadd (pc := 1277) C dL_law_1277 ?_
  refine gl_sld (pc := 1278) C hi4 dL_law_1278 ?_
  refine gl_aload_n (pc := 1279) C dL_law_1279 (i := 0) rfl 0 rfl ?_
  refine gl_iload_n (pc := 1280) C dL_law_1280 (i := 3) rfl 3 rfl ?_
  refine gl_iconst (pc := 1281) (v := 5) C dL_law_1281 (by decide) ?_
  refine gl_iadd (pc := 1282) C dL_law_1282 ?_
  refine gl_sld (pc := 1283) C hi5 dL_law_1283 ?_
  refine gl_callMi (pc := 1284) (As := [.int _, .int _, .int _, .int _, .int _]) C (c_X7_copy C.2.2.2.2.2.2.2.2.2.2.1 e2) q1239 mw_X7_copy ⟨Nat.le_of_ble_eq_true rfl, Nat.le_of_ble_eq_true rfl⟩ rfl rfl rfl (Nat.le_of_ble_eq_true rfl) dL_law_1284 ?_
  refine gl_eqi (pc := 1287) (tgt := 1362) C dL_law_1287 (by decide) ?_
  exact hk _ _ hR2
def Ag_write (Rel : St → St → Prop) : Prop := ∀ SX SM, Rel SX SM → ∀ x1 x2 : Int32, ∃ (r : Int32) (SX2 SM2 : St), m_X6_write x1 x2 SX = some (r, SX2) ∧ m_X7_write x1 x2 SM = some (r, SM2) ∧ Rel SX2 SM2
theorem lc_33 (C : CL p s m meth c b L xs D adX adM cI cJ cZ) {x : Int32} {Rel : St → St → Prop} (h : Ag_write Rel) (hR : Rel SX SM) (hi1 : vp_in (x + 1) L) (hi2 : vp_in (x + 2) L) (hi3 : vp_in (x + 3) L) (hi4 : vp_in (x + 4) L) (hi5 : vp_in (x + 5) L) (hk : ∀ SX SM, Rel SX SM → GL p l e s m below meth c b D adX adM cI cJ cZ SX SM 1362 [(0, .ref b), (1, .ref (adX 0)), (2, .ref (adM 0)), (3, .int x)] []) : GL p l e s m below meth c b D adX adM cI cJ cZ SX SM 1292 [(0, .ref b), (1, .ref (adX 0)), (2, .ref (adM 0)), (3, .int x)] [] := by
  obtain ⟨r, SX2, SM2, e1, e2, hR2⟩ := h SX SM hR (xs (x + 1).toNatClampNeg) (xs (x + 2).toNatClampNeg)
  refine gl_aload_n (pc := 1292) C dL_law_1292 (i := 1) rfl 1 rfl ?_
  refine gl_aload_n (pc := 1293) C dL_law_1293 (i := 0) rfl 0 rfl ?_
  refine gl_iload_n (pc := 1294) C dL_law_1294 (i := 3) rfl 3 rfl ?_
  refine gl_iconst (pc := 1295) (v := 1) C dL_law_1295 (by decide) ?_
  refine gl_iadd (pc := 1296) C dL_law_1296 ?_
  refine gl_sld (pc := 1297) C hi1 dL_law_1297 ?_
  refine gl_aload_n (pc := 1298) C dL_law_1298 (i := 0) rfl 0 rfl ?_
  refine gl_iload_n (pc := 1299) C dL_law_1299 (i := 3) rfl 3 rfl ?_
  refine gl_iconst (pc := 1300) (v := 2) C dL_law_1300 (by decide) ?_
  refine gl_iadd (pc := 1301) C dL_law_1301 ?_
  refine gl_sld (pc := 1302) C hi2 dL_law_1302 ?_
  refine gl_callXi (pc := 1303) (As := [.int _, .int _]) C (c_X6_write C.2.2.2.2.2.2.2.2.2.1 e1) q807 mw_X6_write ⟨Nat.le_of_ble_eq_true rfl, Nat.le_of_ble_eq_true rfl⟩ rfl rfl rfl (Nat.le_of_ble_eq_true rfl) dL_law_1303 ?_
  refine gl_aload_n (pc := 1306) C dL_law_1306 (i := 2) rfl 2 rfl ?_
  refine gl_aload_n (pc := 1307) C dL_law_1307 (i := 0) rfl 0 rfl ?_
  refine gl_iload_n (pc := 1308) C dL_law_1308 (i := 3) rfl 3 rfl ?_
  refine gl_iconst (pc := 1309) (v := 1) C dL_law_1309 (by decide) ?_
  refine gl_iadd (pc := 1310) C dL_law_1310 ?_
  refine gl_sld (pc := 1311) C hi1 dL_law_1311 ?_
  refine gl_aload_n (pc := 1312) C dL_law_1312 (i := 0) rfl 0 rfl ?_
  refine gl_iload_n (pc := 1313) C dL_law_1313 (i := 3) rfl 3 rfl ?_
  refine gl_iconst (pc := 1314) (v := 2) C dL_law_1314 (by decide) ?_
  refine gl_iadd (pc := 1315) C dL_law_1315 ?_
  refine gl_sld (pc := 1316) C hi2 dL_law_1316 ?_
  refine gl_callMi (pc := 1317) (As := [.int _, .int _]) C (c_X7_write C.2.2.2.2.2.2.2.2.2.2.1 e2) q1243 mw_X7_write ⟨Nat.le_of_ble_eq_true rfl, Nat.le_of_ble_eq_true rfl⟩ rfl rfl rfl (Nat.le_of_ble_eq_true rfl) dL_law_1317 ?_
  refine gl_eqi (pc := 1320) (tgt := 1362) C dL_law_1320 (by decide) ?_
  exact hk _ _ hR2
def Ag_count (Rel : St → St → Prop) : Prop := ∀ SX SM, Rel SX SM → ∀ x1 : Int32, ∃ (r : Int32) (SX2 SM2 : St), m_X6_count x1 SX = some (r, SX2) ∧ m_X7_count x1 SM = some (r, SM2) ∧ Rel SX2 SM2
theorem lc_34 (C : CL p s m meth c b L xs D adX adM cI cJ cZ) {x : Int32} {Rel : St → St → Prop} (h : Ag_count Rel) (hR : Rel SX SM) (hi1 : vp_in (x + 1) L) (hi2 : vp_in (x + 2) L) (hi3 : vp_in (x + 3) L) (hi4 : vp_in (x + 4) L) (hi5 : vp_in (x + 5) L) (hk : ∀ SX SM, Rel SX SM → GL p l e s m below meth c b D adX adM cI cJ cZ SX SM 1362 [(0, .ref b), (1, .ref (adX 0)), (2, .ref (adM 0)), (3, .int x)] []) : GL p l e s m below meth c b D adX adM cI cJ cZ SX SM 1325 [(0, .ref b), (1, .ref (adX 0)), (2, .ref (adM 0)), (3, .int x)] [] := by
  obtain ⟨r, SX2, SM2, e1, e2, hR2⟩ := h SX SM hR (xs (x + 1).toNatClampNeg)
  refine gl_aload_n (pc := 1325) C dL_law_1325 (i := 1) rfl 1 rfl ?_
  refine gl_aload_n (pc := 1326) C dL_law_1326 (i := 0) rfl 0 rfl ?_
  refine gl_iload_n (pc := 1327) C dL_law_1327 (i := 3) rfl 3 rfl ?_
  refine gl_iconst (pc := 1328) (v := 1) C dL_law_1328 (by decide) ?_
  refine gl_iadd (pc := 1329) C dL_law_1329 ?_
  refine gl_sld (pc := 1330) C hi1 dL_law_1330 ?_
  refine gl_callXi (pc := 1331) (As := [.int _]) C (c_X6_count C.2.2.2.2.2.2.2.2.2.1 e1) q811 mw_X6_count ⟨Nat.le_of_ble_eq_true rfl, Nat.le_of_ble_eq_true rfl⟩ rfl rfl rfl (Nat.le_of_ble_eq_true rfl) dL_law_1331 ?_
  refine gl_aload_n (pc := 1334) C dL_law_1334 (i := 2) rfl 2 rfl ?_
  refine gl_aload_n (pc := 1335) C dL_law_1335 (i := 0) rfl 0 rfl ?_
  refine gl_iload_n (pc := 1336) C dL_law_1336 (i := 3) rfl 3 rfl ?_
  refine gl_iconst (pc := 1337) (v := 1) C dL_law_1337 (by decide) ?_
  refine gl_iadd (pc := 1338) C dL_law_1338 ?_
  refine gl_sld (pc := 1339) C hi1 dL_law_1339 ?_
  refine gl_callMi (pc := 1340) (As := [.int _]) C (c_X7_count C.2.2.2.2.2.2.2.2.2.2.1 e2) q1247 mw_X7_count ⟨Nat.le_of_ble_eq_true rfl, Nat.le_of_ble_eq_true rfl⟩ rfl rfl rfl (Nat.le_of_ble_eq_true rfl) dL_law_1340 ?_
  refine gl_eqi (pc := 1343) (tgt := 1362) C dL_law_1343 (by decide) ?_
  exact hk _ _ hR2
def Ag_digest (Rel : St → St → Prop) : Prop := ∀ SX SM, Rel SX SM → ∃ (r : Int64) (SX2 SM2 : St), m_X6_digest  SX = some (r, SX2) ∧ m_X7_digest  SM = some (r, SM2) ∧ Rel SX2 SM2
theorem lc_35 (C : CL p s m meth c b L xs D adX adM cI cJ cZ) {x : Int32} {Rel : St → St → Prop} (h : Ag_digest Rel) (hR : Rel SX SM) (hi1 : vp_in (x + 1) L) (hi2 : vp_in (x + 2) L) (hi3 : vp_in (x + 3) L) (hi4 : vp_in (x + 4) L) (hi5 : vp_in (x + 5) L) (hk : ∀ SX SM, Rel SX SM → GL p l e s m below meth c b D adX adM cI cJ cZ SX SM 1362 [(0, .ref b), (1, .ref (adX 0)), (2, .ref (adM 0)), (3, .int x)] []) : GL p l e s m below meth c b D adX adM cI cJ cZ SX SM 1348 [(0, .ref b), (1, .ref (adX 0)), (2, .ref (adM 0)), (3, .int x)] [] := by
  obtain ⟨r, SX2, SM2, e1, e2, hR2⟩ := h SX SM hR 
  refine gl_aload_n (pc := 1348) C dL_law_1348 (i := 1) rfl 1 rfl ?_
  refine gl_callXl (pc := 1349) (As := []) C (c_X6_digest C.2.2.2.2.2.2.2.2.2.1 e1) q835 mw_X6_digest ⟨Nat.le_of_ble_eq_true rfl, Nat.le_of_ble_eq_true rfl⟩ rfl rfl rfl (Nat.le_of_ble_eq_true rfl) dL_law_1349 ?_
  refine gl_aload_n (pc := 1352) C dL_law_1352 (i := 2) rfl 2 rfl ?_
  refine gl_callMl (pc := 1353) (As := []) C (c_X7_digest C.2.2.2.2.2.2.2.2.2.2.1 e2) q1255 mw_X7_digest ⟨Nat.le_of_ble_eq_true rfl, Nat.le_of_ble_eq_true rfl⟩ rfl rfl rfl (Nat.le_of_ble_eq_true rfl) dL_law_1353 ?_
  refine gl_eql (pc := 1356) (tgt := 1362) C dL_law_1356 dL_law_1357 (by decide) ?_
  exact hk _ _ hR2
theorem law_body (C : CL p s m meth c b L xs D adX adM cI cJ cZ) (hret : meth.sig.returnType = ret) (hlk : meth.locks = false) (hL : L ≤ 3072) {Rel : St → St → Prop} (a0 : Ag_type Rel) (a1 : Ag_wipe Rel) (a2 : Ag_fault Rel) (a3 : Ag_cell Rel) (a4 : Ag_stand Rel) (a5 : Ag_owner Rel) (a6 : Ag_read Rel) (a7 : Ag_days Rel) (a8 : Ag_steep Rel) (a9 : Ag_shade Rel) (a10 : Ag_light Rel) (a11 : Ag_hours Rel) (a12 : Ag_has Rel) (a13 : Ag_parts Rel) (a14 : Ag_taken Rel) (a15 : Ag_highest Rel) (a16 : Ag_again Rel) (a17 : Ag_worth Rel) (a18 : Ag_value Rel) (a19 : Ag_change Rel) (a20 : Ag_changes Rel) (a21 : Ag_sort Rel) (a22 : Ag_set Rel) (a23 : Ag_seen Rel) (a24 : Ag_forget Rel) (a25 : Ag_whose Rel) (a26 : Ag_clouds Rel) (a27 : Ag_clear Rel) (a28 : Ag_sheet Rel) (a29 : Ag_lose Rel) (a30 : Ag_put Rel) (a31 : Ag_get Rel) (a32 : Ag_copy Rel) (a33 : Ag_write Rel) (a34 : Ag_count Rel) (a35 : Ag_digest Rel) : ∀ (n j : Nat) (x : Int32), x = nI (6 * j) → 6 * j ≤ L + 5 → L + 6 - 6 * j ≤ n → ∀ SX SM, Rel SX SM → GL p l e s m below meth c b D adX adM cI cJ cZ SX SM 18 [(0, .ref b), (1, .ref (adX 0)), (2, .ref (adM 0)), (3, .int x)] [] := by
  intro n
  induction n with
  | zero => intro j x _ h1 h2; omega
  | succ n ih =>
    intro j x ex h1 h2 SX SM hR H locs ls hP hM hS hl
    refine lv_iload_n C.1 C.2.1 dL_law_18 rfl (lv_at hl 3 rfl) ?_
    refine lv_aload_n C.1 C.2.1 dL_law_19 rfl (lv_at hl 0 rfl) ?_
    refine va_slen C.1 C.2.1 C.2.2.2.2.2.2.2.1 C.2.2.2.2.2.2.2.2.1 (Nat.not_le.mpr C.2.2.2.2.2.2.2.2.1) hS dL_law_20 ?_
    refine lv_bipush (v := 6) C.1 C.2.1 dL_law_21 (by decide) ?_
    refine lv_isub C.1 C.2.1 dL_law_23 ?_
    have eL : (Int32.ofNat L - 6).toInt = (L : Int) - 6 := pk_sub_toInt (a := L) (b := 6) (by omega) (by omega)
    have exI : x.toInt = ((6 * j : Nat) : Int) := by rw [ex]; exact nI_toInt (by omega)
    refine lv_icmp_gt (tgt := 1368) C.1 C.2.1 dL_law_24 (by decide) (fun hc => ?_) (fun hc => ?_)
    · refine lv_iconst (v := 1) C.1 C.2.1 dL_law_1368 (by decide) ?_
      refine va_forget (fun q hq => hS.2.2 q hq) ?_
      exact lw_ret C.1 C.2.1 hret hlk dL_law_1369
    · have hlt : 6 * j + 6 ≤ L := by
        have h3 : ¬ (Int32.ofNat L - 6).toInt < x.toInt := fun g => hc (Int32.lt_iff_toInt_lt.mpr g)
        rw [eL, exI] at h3
        omega
      have hi0 : vp_in x L := by rw [ex]; exact vp_in_nI (by omega) (by omega)
      have hi1 : vp_in (x + 1) L := by rw [ex]; exact (nI_add (6 * j) 1) ▸ vp_in_nI (by omega) (by omega)
      have hi2 : vp_in (x + 2) L := by rw [ex]; exact (nI_add (6 * j) 2) ▸ vp_in_nI (by omega) (by omega)
      have hi3 : vp_in (x + 3) L := by rw [ex]; exact (nI_add (6 * j) 3) ▸ vp_in_nI (by omega) (by omega)
      have hi4 : vp_in (x + 4) L := by rw [ex]; exact (nI_add (6 * j) 4) ▸ vp_in_nI (by omega) (by omega)
      have hi5 : vp_in (x + 5) L := by rw [ex]; exact (nI_add (6 * j) 5) ▸ vp_in_nI (by omega) (by omega)
      refine lv_aload_n C.1 C.2.1 dL_law_27 rfl (lv_at hl 0 rfl) ?_
      refine lv_iload_n C.1 C.2.1 dL_law_28 rfl (lv_at hl 3 rfl) ?_
      refine va_sld C.1 C.2.1 C.2.2.2.2.2.2.2.1 C.2.2.2.2.2.2.2.2.1 (Nat.not_le.mpr C.2.2.2.2.2.2.2.2.1) hS hi0 dL_law_29 ?_
      refine lv_bipush (v := 63) C.1 C.2.1 dL_law_30 (by decide) ?_
      refine lv_iand C.1 C.2.1 dL_law_32 ?_
      obtain ⟨o, ho, eo⟩ := pk_andE (xs x.toNatClampNeg) (m := 63) 6 rfl
      rw [eo]
      have hk : ∀ SX SM, Rel SX SM → GL p l e s m below meth c b D adX adM cI cJ cZ SX SM 1362 [(0, .ref b), (1, .ref (adX 0)), (2, .ref (adM 0)), (3, .int x)] [] := by
        intro SX SM hR H locs ls hP hM hS hl
        refine lv_iinc (v := x + 6) (lv' := [(3, .int (x + 6)), (0, .ref b), (1, .ref (adX 0)), (2, .ref (adM 0))]) C.1 C.2.1 dL_law_1362 hl (k := 3) rfl rfl (by decide) rfl (fun ls hl => ?_)
        refine lv_goto (tgt := 18) C.1 C.2.1 dL_law_1365 (by decide) ?_
        exact ih (j + 1) (x + 6) (by rw [ex]; exact nI_add (6 * j) 6) (by omega) (by omega) SX SM hR H locs ls hP hM hS (lv_sub hl [1, 2, 3, 0] rfl)
      by_cases h36 : o < 36
      · rcases (show o = 0 ∨ o = 1 ∨ o = 2 ∨ o = 3 ∨ o = 4 ∨ o = 5 ∨ o = 6 ∨ o = 7 ∨ o = 8 ∨ o = 9 ∨ o = 10 ∨ o = 11 ∨ o = 12 ∨ o = 13 ∨ o = 14 ∨ o = 15 ∨ o = 16 ∨ o = 17 ∨ o = 18 ∨ o = 19 ∨ o = 20 ∨ o = 21 ∨ o = 22 ∨ o = 23 ∨ o = 24 ∨ o = 25 ∨ o = 26 ∨ o = 27 ∨ o = 28 ∨ o = 29 ∨ o = 30 ∨ o = 31 ∨ o = 32 ∨ o = 33 ∨ o = 34 ∨ o = 35 by omega) with rfl | rfl | rfl | rfl | rfl | rfl | rfl | rfl | rfl | rfl | rfl | rfl | rfl | rfl | rfl | rfl | rfl | rfl | rfl | rfl | rfl | rfl | rfl | rfl | rfl | rfl | rfl | rfl | rfl | rfl | rfl | rfl | rfl | rfl | rfl | rfl
        · exact lv_tableIn (off := 159) (tgt := 192) C.1 C.2.1 dL_law_33 (by decide) (by decide) rfl (by decide) (lc_0 C a0 hR hi1 hi2 hi3 hi4 hi5 hk H locs ls hP hM hS hl)
        · exact lv_tableIn (off := 182) (tgt := 215) C.1 C.2.1 dL_law_33 (by decide) (by decide) rfl (by decide) (lc_1 C a1 hR hi1 hi2 hi3 hi4 hi5 hk H locs ls hP hM hS hl)
        · exact lv_tableIn (off := 195) (tgt := 228) C.1 C.2.1 dL_law_33 (by decide) (by decide) rfl (by decide) (lc_2 C a2 hR hi1 hi2 hi3 hi4 hi5 hk H locs ls hP hM hS hl)
        · exact lv_tableIn (off := 208) (tgt := 241) C.1 C.2.1 dL_law_33 (by decide) (by decide) rfl (by decide) (lc_3 C a3 hR hi1 hi2 hi3 hi4 hi5 hk H locs ls hP hM hS hl)
        · exact lv_tableIn (off := 241) (tgt := 274) C.1 C.2.1 dL_law_33 (by decide) (by decide) rfl (by decide) (lc_4 C a4 hR hi1 hi2 hi3 hi4 hi5 hk H locs ls hP hM hS hl)
        · exact lv_tableIn (off := 274) (tgt := 307) C.1 C.2.1 dL_law_33 (by decide) (by decide) rfl (by decide) (lc_5 C a5 hR hi1 hi2 hi3 hi4 hi5 hk H locs ls hP hM hS hl)
        · exact lv_tableIn (off := 307) (tgt := 340) C.1 C.2.1 dL_law_33 (by decide) (by decide) rfl (by decide) (lc_6 C a6 hR hi1 hi2 hi3 hi4 hi5 hk H locs ls hP hM hS hl)
        · exact lv_tableIn (off := 330) (tgt := 363) C.1 C.2.1 dL_law_33 (by decide) (by decide) rfl (by decide) (lc_7 C a7 hR hi1 hi2 hi3 hi4 hi5 hk H locs ls hP hM hS hl)
        · exact lv_tableIn (off := 363) (tgt := 396) C.1 C.2.1 dL_law_33 (by decide) (by decide) rfl (by decide) (lc_8 C a8 hR hi1 hi2 hi3 hi4 hi5 hk H locs ls hP hM hS hl)
        · exact lv_tableIn (off := 396) (tgt := 429) C.1 C.2.1 dL_law_33 (by decide) (by decide) rfl (by decide) (lc_9 C a9 hR hi1 hi2 hi3 hi4 hi5 hk H locs ls hP hM hS hl)
        · exact lv_tableIn (off := 439) (tgt := 472) C.1 C.2.1 dL_law_33 (by decide) (by decide) rfl (by decide) (lc_10 C a10 hR hi1 hi2 hi3 hi4 hi5 hk H locs ls hP hM hS hl)
        · exact lv_tableIn (off := 472) (tgt := 505) C.1 C.2.1 dL_law_33 (by decide) (by decide) rfl (by decide) (lc_11 C a11 hR hi1 hi2 hi3 hi4 hi5 hk H locs ls hP hM hS hl)
        · exact lv_tableIn (off := 505) (tgt := 538) C.1 C.2.1 dL_law_33 (by decide) (by decide) rfl (by decide) (lc_12 C a12 hR hi1 hi2 hi3 hi4 hi5 hk H locs ls hP hM hS hl)
        · exact lv_tableIn (off := 538) (tgt := 571) C.1 C.2.1 dL_law_33 (by decide) (by decide) rfl (by decide) (lc_13 C a13 hR hi1 hi2 hi3 hi4 hi5 hk H locs ls hP hM hS hl)
        · exact lv_tableIn (off := 561) (tgt := 594) C.1 C.2.1 dL_law_33 (by decide) (by decide) rfl (by decide) (lc_14 C a14 hR hi1 hi2 hi3 hi4 hi5 hk H locs ls hP hM hS hl)
        · exact lv_tableIn (off := 604) (tgt := 637) C.1 C.2.1 dL_law_33 (by decide) (by decide) rfl (by decide) (lc_15 C a15 hR hi1 hi2 hi3 hi4 hi5 hk H locs ls hP hM hS hl)
        · exact lv_tableIn (off := 637) (tgt := 670) C.1 C.2.1 dL_law_33 (by decide) (by decide) rfl (by decide) (lc_16 C a16 hR hi1 hi2 hi3 hi4 hi5 hk H locs ls hP hM hS hl)
        · exact lv_tableIn (off := 680) (tgt := 713) C.1 C.2.1 dL_law_33 (by decide) (by decide) rfl (by decide) (lc_17 C a17 hR hi1 hi2 hi3 hi4 hi5 hk H locs ls hP hM hS hl)
        · exact lv_tableIn (off := 723) (tgt := 756) C.1 C.2.1 dL_law_33 (by decide) (by decide) rfl (by decide) (lc_18 C a18 hR hi1 hi2 hi3 hi4 hi5 hk H locs ls hP hM hS hl)
        · exact lv_tableIn (off := 756) (tgt := 789) C.1 C.2.1 dL_law_33 (by decide) (by decide) rfl (by decide) (lc_19 C a19 hR hi1 hi2 hi3 hi4 hi5 hk H locs ls hP hM hS hl)
        · exact lv_tableIn (off := 789) (tgt := 822) C.1 C.2.1 dL_law_33 (by decide) (by decide) rfl (by decide) (lc_20 C a20 hR hi1 hi2 hi3 hi4 hi5 hk H locs ls hP hM hS hl)
        · exact lv_tableIn (off := 812) (tgt := 845) C.1 C.2.1 dL_law_33 (by decide) (by decide) rfl (by decide) (lc_21 C a21 hR hi1 hi2 hi3 hi4 hi5 hk H locs ls hP hM hS hl)
        · exact lv_tableIn (off := 855) (tgt := 888) C.1 C.2.1 dL_law_33 (by decide) (by decide) rfl (by decide) (lc_22 C a22 hR hi1 hi2 hi3 hi4 hi5 hk H locs ls hP hM hS hl)
        · exact lv_tableIn (off := 878) (tgt := 911) C.1 C.2.1 dL_law_33 (by decide) (by decide) rfl (by decide) (lc_23 C a23 hR hi1 hi2 hi3 hi4 hi5 hk H locs ls hP hM hS hl)
        · exact lv_tableIn (off := 911) (tgt := 944) C.1 C.2.1 dL_law_33 (by decide) (by decide) rfl (by decide) (lc_24 C a24 hR hi1 hi2 hi3 hi4 hi5 hk H locs ls hP hM hS hl)
        · exact lv_tableIn (off := 924) (tgt := 957) C.1 C.2.1 dL_law_33 (by decide) (by decide) rfl (by decide) (lc_25 C a25 hR hi1 hi2 hi3 hi4 hi5 hk H locs ls hP hM hS hl)
        · exact lv_tableIn (off := 947) (tgt := 980) C.1 C.2.1 dL_law_33 (by decide) (by decide) rfl (by decide) (lc_26 C a26 hR hi1 hi2 hi3 hi4 hi5 hk H locs ls hP hM hS hl)
        · exact lv_tableIn (off := 980) (tgt := 1013) C.1 C.2.1 dL_law_33 (by decide) (by decide) rfl (by decide) (lc_27 C a27 hR hi1 hi2 hi3 hi4 hi5 hk H locs ls hP hM hS hl)
        · exact lv_tableIn (off := 1034) (tgt := 1067) C.1 C.2.1 dL_law_33 (by decide) (by decide) rfl (by decide) (lc_28 C a28 hR hi1 hi2 hi3 hi4 hi5 hk H locs ls hP hM hS hl)
        · exact lv_tableIn (off := 1077) (tgt := 1110) C.1 C.2.1 dL_law_33 (by decide) (by decide) rfl (by decide) (lc_29 C a29 hR hi1 hi2 hi3 hi4 hi5 hk H locs ls hP hM hS hl)
        · exact lv_tableIn (off := 1100) (tgt := 1133) C.1 C.2.1 dL_law_33 (by decide) (by decide) rfl (by decide) (lc_30 C a30 hR hi1 hi2 hi3 hi4 hi5 hk H locs ls hP hM hS hl)
        · exact lv_tableIn (off := 1153) (tgt := 1186) C.1 C.2.1 dL_law_33 (by decide) (by decide) rfl (by decide) (lc_31 C a31 hR hi1 hi2 hi3 hi4 hi5 hk H locs ls hP hM hS hl)
        · exact lv_tableIn (off := 1196) (tgt := 1229) C.1 C.2.1 dL_law_33 (by decide) (by decide) rfl (by decide) (lc_32 C a32 hR hi1 hi2 hi3 hi4 hi5 hk H locs ls hP hM hS hl)
        · exact lv_tableIn (off := 1259) (tgt := 1292) C.1 C.2.1 dL_law_33 (by decide) (by decide) rfl (by decide) (lc_33 C a33 hR hi1 hi2 hi3 hi4 hi5 hk H locs ls hP hM hS hl)
        · exact lv_tableIn (off := 1292) (tgt := 1325) C.1 C.2.1 dL_law_33 (by decide) (by decide) rfl (by decide) (lc_34 C a34 hR hi1 hi2 hi3 hi4 hi5 hk H locs ls hP hM hS hl)
        · exact lv_tableIn (off := 1315) (tgt := 1348) C.1 C.2.1 dL_law_33 (by decide) (by decide) rfl (by decide) (lc_35 C a35 hR hi1 hi2 hi3 hi4 hi5 hk H locs ls hP hM hS hl)
      · have eI : (nI o).toInt = (o : Int) := nI_toInt (by omega)
        refine lv_tableOut (tgt := 1362) C.1 C.2.1 dL_law_33 (Or.inr (by rw [eI]; omega)) (by decide) ?_
        exact hk SX SM hR H locs ls hP hM hS hl
end GLR
