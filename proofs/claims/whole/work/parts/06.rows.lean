/-! THE WALKING JUDGEMENT. St: what the cells of a world hold, by number of the variable and place. A method's mirror is a function of St into Option; GM says: if the mirror answers, the machine at pc comes to what it answers. -/
abbrev St : Type := (Nat → Nat → Int32) × (Nat → Nat → Int64)
def gI (S : St) (k j : Nat) : Int32 := S.1 k j
def gL (S : St) (k j : Nat) : Int64 := S.2 k j
def sI (S : St) (k j : Nat) (x : Int32) : St := (fun a => if a = k then upd (S.1 a) j x else S.1 a, S.2)
def sL (S : St) (k j : Nat) (x : Int64) : St := (S.1, fun a => if a = k then vp_updL (S.2 a) j x else S.2 a)
def sC (S : St) (k : Nat) (f : Nat → Int32) : St := (fun a => if a = k then f else S.1 a, S.2)
def ix (i : Int32) : Nat := i.toNatClampNeg
def chk {ζ : Type} (i : Int32) (n : Nat) (o : Option ζ) : Option ζ := if i < 0 ∨ n ≤ i.toNatClampNeg then none else o
def zchk {ζ : Type} (x : Int32) (o : Option ζ) : Option ζ := if x = 0 ∨ x = 1 then o else none
def dchk {ζ : Type} (y : Int32) (o : Option ζ) : Option ζ := if y = 0 then none else o
def dchkL {ζ : Type} (y : Int64) (o : Option ζ) : Option ζ := if y = 0 then none else o
def cchk {ζ : Type} (sp dp n : Int32) (n0 n1 : Nat) (o : Option ζ) : Option ζ := if sp < 0 ∨ dp < 0 ∨ n < 0 ∨ n0 < sp.toNatClampNeg + n.toNatClampNeg ∨ n1 < dp.toNatClampNeg + n.toNatClampNeg then none else o
def nm {α ζ : Type} (x : α) (k : α → Option ζ) : Option ζ := k x
def bnd {α ζ : Type} (o : Option (α × St)) (k : α → St → Option ζ) : Option ζ := match o with
  | none => none
  | some z => k z.1 z.2
def bndV {ζ : Type} (o : Option St) (k : St → Option ζ) : Option ζ := match o with
  | none => none
  | some z => k z
def tsw {ζ : Type} (x : Int32) (lo hi : Int) (l : List (Option ζ)) (d : Option ζ) : Option ζ := if x.toInt < lo ∨ hi < x.toInt then d else l.getD (x.toInt - lo).toNat none
theorem bnd_ok {α ζ : Type} {o : Option (α × St)} {k : α → St → Option ζ} {z : ζ} (h : bnd o k = some z) : ∃ c, o = some c ∧ k c.1 c.2 = some z := by
  cases o with
  | none => cases h
  | some c => exact ⟨c, rfl, h⟩
theorem bndV_ok {ζ : Type} {o : Option St} {k : St → Option ζ} {z : ζ} (h : bndV o k = some z) : ∃ c, o = some c ∧ k c = some z := by
  cases o with
  | none => cases h
  | some c => exact ⟨c, rfl, h⟩
theorem chk_ok {ζ : Type} {i : Int32} {n : Nat} {o : Option ζ} {z : ζ} (h : chk i n o = some z) : vp_in i n ∧ o = some z := by
  unfold chk at h
  split at h
  · cases h
  · exact ⟨by assumption, h⟩
abbrev clsX : List vw_C := [(RX0, TX0, 3), (RX1, TX1, 8), (RX2, TX2, 11), (RX3, TX3, 4), (RX4, TX4, 3), (RX5, TX5, 6), (RX6, TX6, 17), (RX7, TX7, 27)]
/-- the cells of a world, and all that come from sz on -/
def Adr (ad : Nat → Nat) (n sz : Nat) : Nat → Prop := fun q => (∃ k, k < n ∧ q = ad k) ∨ sz ≤ q
/-- a nest mate's private fields that Sun reads -/
def NX (U : State) : Prop := va_Nw (.fieldLinkNest RX5 71 "HillHours$Ground" "heights" "[I" "HillHours") U ∧ va_Nw (.fieldLinkNest RX5 64 "HillHours$Ground" "columnsOfCells" "[I" "HillHours") U ∧ va_Nw (.fieldLinkNest RX5 67 "HillHours$Ground" "columnCount" "I" "HillHours") U
theorem NX.warm {s U : State} (hW : s.WarmedH U.vm) (h : NX s) : NX U := ⟨h.1.warmF hW, h.2.1.warmF hW, h.2.2.warmF hW⟩
theorem NX.same {s U : State} (hv : s.vm = U.vm) (h : NX s) : NX U := ⟨h.1.same rfl hv, h.2.1.same rfl hv, h.2.2.same rfl hv⟩
def PS (D : va_G) (w : St → va_W) (ty : List (ClassId × FieldType)) (S : St) (sz : Nat) (U : State) : Prop := U.heap.size = sz ∧ va_P D clsX (w S) U.heap ∧ va_K D clsX ty U ∧ NX U
def BS (D : va_G) (w : St → va_W) (u : St) (t : State) : Prop := va_P D clsX (w u) t.heap
/-- contracts: an int (or boolean), a long, nothing, a cell of the world -/
def CtI (l : Launch) (y : MethodName) (bytes : ByteArray) (maxL : Nat) (ret : Option FieldType) (rm : Room) (D : va_G) (w : St → va_W) (ty : List (ClassId × FieldType)) (ad : Nat → Nat) (n : Nat) (As : List Value) (S : St) (z : Int32 × St) : Prop :=
  ∀ sz, Met l y (Cond.code y bytes maxL ret :: lw_tb) rm (va_Pc As (PS D w ty S sz)) (va_Qi (fun r (u : St) => r = z.1 ∧ u = z.2) (BS D w) (Adr ad n sz)) 0 0 (Adr ad n sz)
def CtL (l : Launch) (y : MethodName) (bytes : ByteArray) (maxL : Nat) (ret : Option FieldType) (rm : Room) (D : va_G) (w : St → va_W) (ty : List (ClassId × FieldType)) (ad : Nat → Nat) (n : Nat) (As : List Value) (S : St) (z : Int64 × St) : Prop :=
  ∀ sz, Met l y (Cond.code y bytes maxL ret :: lw_tb) rm (va_Pc As (PS D w ty S sz)) (va_Ql (fun r (u : St) => r = z.1 ∧ u = z.2) (BS D w) (Adr ad n sz)) 0 0 (Adr ad n sz)
def CtV (l : Launch) (y : MethodName) (bytes : ByteArray) (maxL : Nat) (ret : Option FieldType) (rm : Room) (D : va_G) (w : St → va_W) (ty : List (ClassId × FieldType)) (ad : Nat → Nat) (n : Nat) (As : List Value) (S : St) (z : St) : Prop :=
  ∀ sz, Met l y (Cond.code y bytes maxL ret :: lw_tb) rm (va_Pc As (PS D w ty S sz)) (va_Qv (fun (u : St) => u = z) (BS D w) (Adr ad n sz)) 0 0 (Adr ad n sz)
def CtR (l : Launch) (y : MethodName) (bytes : ByteArray) (maxL : Nat) (ret : Option FieldType) (rm : Room) (D : va_G) (w : St → va_W) (ty : List (ClassId × FieldType)) (ad : Nat → Nat) (n : Nat) (As : List Value) (S : St) (pl : Nat) (z : St) : Prop :=
  ∀ sz, Met l y (Cond.code y bytes maxL ret :: lw_tb) rm (va_Pc As (PS D w ty S sz)) (va_Qr (fun (u : St) => u = z) (fun u a t => a = ad pl ∧ BS D w u t) (Adr ad n sz)) 0 0 (Adr ad n sz)
def QI (D : va_G) (w : St → va_W) (ad : Nat → Nat) (n : Nat) (args : Array Value) (s : State) (below : List Frame) (z : Int32 × St) : State → Prop := MQ below (va_Qi (fun r (u : St) => r = z.1 ∧ u = z.2) (BS D w) (Adr ad n s.heap.size)) args s 0 0 (Adr ad n s.heap.size)
def QL (D : va_G) (w : St → va_W) (ad : Nat → Nat) (n : Nat) (args : Array Value) (s : State) (below : List Frame) (z : Int64 × St) : State → Prop := MQ below (va_Ql (fun r (u : St) => r = z.1 ∧ u = z.2) (BS D w) (Adr ad n s.heap.size)) args s 0 0 (Adr ad n s.heap.size)
def QV (D : va_G) (w : St → va_W) (ad : Nat → Nat) (n : Nat) (args : Array Value) (s : State) (below : List Frame) (z : St) : State → Prop := MQ below (va_Qv (fun (u : St) => u = z) (BS D w) (Adr ad n s.heap.size)) args s 0 0 (Adr ad n s.heap.size)
def QR (D : va_G) (w : St → va_W) (ad : Nat → Nat) (n pl : Nat) (args : Array Value) (s : State) (below : List Frame) (z : St) : State → Prop := MQ below (va_Qr (fun (u : St) => u = z) (fun u a t => a = ad pl ∧ BS D w u t) (Adr ad n s.heap.size)) args s 0 0 (Adr ad n s.heap.size)
/-- what holds all through a method's body -/
def Cx (p : Program) (s : State) (m : MethodId) (args : Array Value) (meth : Method) (c : Code) (cc : ByteArray) (nL : Nat) (own : String) (D : va_G) (ty : List (ClassId × FieldType)) (ad : Nat → Nat) (n : Nat) (w : St → va_W) : Prop :=
  p.tables.exec = Jvm.exec ∧ c.code = cc ∧ c.maxLocals = nL ∧ s.vm.findClass own = some m.cls ∧ (∀ w ∈ lw_tb, w.before args s = true) ∧ va_K D clsX ty s ∧ NX s ∧ (∀ sz S, va_D (Adr ad n sz) (w S)) ∧ meth.locks = false
def GM {ζ : Type} (p : Program) (l : Launch) (e : Env) (R : Room) (s : State) (m : MethodId) (args : Array Value) (below : List Frame) (meth : Method) (c : Code) (D : va_G) (ad : Nat → Nat) (n : Nat) (w : St → va_W) (nL : Nat) (Qz : ζ → State → Prop) (o : Option ζ) (S : St) (pc : Nat) (lv : List (Nat × Value)) (st : List Value) : Prop :=
  ∀ z, o = some z → ∀ (H : Heap) (locs : List Loc) (ls : Array Slot), va_P D clsX (w S) H → va_S (Adr ad n s.heap.size) s.heap H locs → lv_has ls nL lv → W p l e R s m args below meth c H locs 0 0 (Qz z) (F0 m pc ls st)
def All2 {α β : Type} (P : α → β → Prop) : List α → List β → Prop
  | [], [] => True
  | a :: as, b :: bs => P a b ∧ All2 P as bs
  | _, _ => False
theorem All2.get {α β : Type} {P : α → β → Prop} {d : α} {e : β} : ∀ {as : List α} {bs : List β}, All2 P as bs → ∀ j, j < as.length → P (as.getD j d) (bs.getD j e)
  | [], [], _, j, h => absurd h (Nat.not_lt_zero _)
  | _ :: _, _ :: _, h, 0, _ => h.1
  | _ :: _, _ :: _, h, j + 1, hj => by
    rw [List.getD_cons_succ, List.getD_cons_succ]
    exact All2.get h.2 j (Nat.lt_of_succ_lt_succ hj)
  | [], _ :: _, h, _, _ => h.elim
  | _ :: _, [], h, _, _ => h.elim
def it0 {ζ : Type} (F : (St → Option ζ) → St → Option ζ) : Nat → St → Option ζ
  | 0 => fun _ => none
  | n + 1 => fun S => F (it0 F n) S
def it1 {α0 : Type} {ζ : Type} (F : (α0 → St → Option ζ) → α0 → St → Option ζ) : Nat → α0 → St → Option ζ
  | 0 => fun _ _ => none
  | n + 1 => fun x0 S => F (it1 F n) x0 S
def it2 {α0 α1 : Type} {ζ : Type} (F : (α0 → α1 → St → Option ζ) → α0 → α1 → St → Option ζ) : Nat → α0 → α1 → St → Option ζ
  | 0 => fun _ _ _ => none
  | n + 1 => fun x0 x1 S => F (it2 F n) x0 x1 S
def it3 {α0 α1 α2 : Type} {ζ : Type} (F : (α0 → α1 → α2 → St → Option ζ) → α0 → α1 → α2 → St → Option ζ) : Nat → α0 → α1 → α2 → St → Option ζ
  | 0 => fun _ _ _ _ => none
  | n + 1 => fun x0 x1 x2 S => F (it3 F n) x0 x1 x2 S
def it4 {α0 α1 α2 α3 : Type} {ζ : Type} (F : (α0 → α1 → α2 → α3 → St → Option ζ) → α0 → α1 → α2 → α3 → St → Option ζ) : Nat → α0 → α1 → α2 → α3 → St → Option ζ
  | 0 => fun _ _ _ _ _ => none
  | n + 1 => fun x0 x1 x2 x3 S => F (it4 F n) x0 x1 x2 x3 S
def it5 {α0 α1 α2 α3 α4 : Type} {ζ : Type} (F : (α0 → α1 → α2 → α3 → α4 → St → Option ζ) → α0 → α1 → α2 → α3 → α4 → St → Option ζ) : Nat → α0 → α1 → α2 → α3 → α4 → St → Option ζ
  | 0 => fun _ _ _ _ _ _ => none
  | n + 1 => fun x0 x1 x2 x3 x4 S => F (it5 F n) x0 x1 x2 x3 x4 S
def it6 {α0 α1 α2 α3 α4 α5 : Type} {ζ : Type} (F : (α0 → α1 → α2 → α3 → α4 → α5 → St → Option ζ) → α0 → α1 → α2 → α3 → α4 → α5 → St → Option ζ) : Nat → α0 → α1 → α2 → α3 → α4 → α5 → St → Option ζ
  | 0 => fun _ _ _ _ _ _ _ => none
  | n + 1 => fun x0 x1 x2 x3 x4 x5 S => F (it6 F n) x0 x1 x2 x3 x4 x5 S
def it7 {α0 α1 α2 α3 α4 α5 α6 : Type} {ζ : Type} (F : (α0 → α1 → α2 → α3 → α4 → α5 → α6 → St → Option ζ) → α0 → α1 → α2 → α3 → α4 → α5 → α6 → St → Option ζ) : Nat → α0 → α1 → α2 → α3 → α4 → α5 → α6 → St → Option ζ
  | 0 => fun _ _ _ _ _ _ _ _ => none
  | n + 1 => fun x0 x1 x2 x3 x4 x5 x6 S => F (it7 F n) x0 x1 x2 x3 x4 x5 x6 S
def it8 {α0 α1 α2 α3 α4 α5 α6 α7 : Type} {ζ : Type} (F : (α0 → α1 → α2 → α3 → α4 → α5 → α6 → α7 → St → Option ζ) → α0 → α1 → α2 → α3 → α4 → α5 → α6 → α7 → St → Option ζ) : Nat → α0 → α1 → α2 → α3 → α4 → α5 → α6 → α7 → St → Option ζ
  | 0 => fun _ _ _ _ _ _ _ _ _ => none
  | n + 1 => fun x0 x1 x2 x3 x4 x5 x6 x7 S => F (it8 F n) x0 x1 x2 x3 x4 x5 x6 x7 S
section GMR
variable {p : Program} {l : Launch} {e : Env} {R : Room} {s : State} {m : MethodId} {args : Array Value} {below : List Frame} {meth : Method} {c : Code} {cc : ByteArray} {nL : Nat} {own : String} {D : va_G} {ty : List (ClassId × FieldType)} {ad : Nat → Nat} {n : Nat} {w : St → va_W} {ζ : Type} {Qz : ζ → State → Prop} {o o1 o2 : Option ζ} {S : St} {pc : Nat} {lv : List (Nat × Value)} {st : List Value}
theorem g_iconst (C : Cx p s m args meth c cc nL own D ty ad n w) {a : Int} {v : Int32} (hd : decode cc pc = .ok (.iconst a, 1)) (hv : Int32.ofInt a = v) (k : GM p l e R s m args below meth c D ad n w nL Qz o S (pc + 1) lv (.int v :: st)) : GM p l e R s m args below meth c D ad n w nL Qz o S pc lv (st) :=
  fun z hz H locs ls hP hS hl => lv_iconst C.1 C.2.1 hd hv (k z hz H locs ls hP hS hl)
theorem g_bipush (C : Cx p s m args meth c cc nL own D ty ad n w) {a : Int} {v : Int32} (hd : decode cc pc = .ok (.bipush a, 2)) (hv : (Int8.ofInt a).toInt32 = v) (k : GM p l e R s m args below meth c D ad n w nL Qz o S (pc + 2) lv (.int v :: st)) : GM p l e R s m args below meth c D ad n w nL Qz o S pc lv (st) :=
  fun z hz H locs ls hP hS hl => lv_bipush C.1 C.2.1 hd hv (k z hz H locs ls hP hS hl)
theorem g_sipush (C : Cx p s m args meth c cc nL own D ty ad n w) {a : Int} {v : Int32} (hd : decode cc pc = .ok (.sipush a, 3)) (hv : (Int16.ofInt a).toInt32 = v) (k : GM p l e R s m args below meth c D ad n w nL Qz o S (pc + 3) lv (.int v :: st)) : GM p l e R s m args below meth c D ad n w nL Qz o S pc lv (st) :=
  fun z hz H locs ls hP hS hl => lv_sipush C.1 C.2.1 hd hv (k z hz H locs ls hP hS hl)
theorem g_lconst (C : Cx p s m args meth c cc nL own D ty ad n w) {a : Fin 2} {v : Int64} (hd : decode cc pc = .ok (.lconst a, 1)) (hv : Int64.ofNat (a : Nat) = v) (k : GM p l e R s m args below meth c D ad n w nL Qz o S (pc + 1) lv (.long v :: st)) : GM p l e R s m args below meth c D ad n w nL Qz o S pc lv (st) :=
  fun z hz H locs ls hP hS hl => lv_lconst C.1 C.2.1 hd hv (k z hz H locs ls hP hS hl)
theorem g_iload_n (C : Cx p s m args meth c cc nL own D ty ad n w) {j : Fin 4} {i : Nat} {x : Int32} (hd : decode cc pc = .ok (.iload_n j, 1)) (hi : (j : Nat) = i) (q : Nat) (hq : lv[q]? = some (i, .int x)) (k : GM p l e R s m args below meth c D ad n w nL Qz o S (pc + 1) lv (.int x :: st)) : GM p l e R s m args below meth c D ad n w nL Qz o S pc lv (st) :=
  fun z hz H locs ls hP hS hl => lv_iload_n C.1 C.2.1 hd hi (lv_at hl q hq) (k z hz H locs ls hP hS hl)
theorem g_iload (C : Cx p s m args meth c cc nL own D ty ad n w) {i : Nat} {x : Int32} (hd : decode cc pc = .ok (.iload i, 2)) (q : Nat) (hq : lv[q]? = some (i, .int x)) (k : GM p l e R s m args below meth c D ad n w nL Qz o S (pc + 2) lv (.int x :: st)) : GM p l e R s m args below meth c D ad n w nL Qz o S pc lv (st) :=
  fun z hz H locs ls hP hS hl => lv_iload C.1 C.2.1 hd (lv_at hl q hq) (k z hz H locs ls hP hS hl)
theorem g_lload_n (C : Cx p s m args meth c cc nL own D ty ad n w) {j : Fin 4} {i : Nat} {x : Int64} (hd : decode cc pc = .ok (.lload_n j, 1)) (hi : (j : Nat) = i) (q : Nat) (hq : lv[q]? = some (i, .long x)) (k : GM p l e R s m args below meth c D ad n w nL Qz o S (pc + 1) lv (.long x :: st)) : GM p l e R s m args below meth c D ad n w nL Qz o S pc lv (st) :=
  fun z hz H locs ls hP hS hl => lv_lload_n C.1 C.2.1 hd hi (lv_at hl q hq) (k z hz H locs ls hP hS hl)
theorem g_lload (C : Cx p s m args meth c cc nL own D ty ad n w) {i : Nat} {x : Int64} (hd : decode cc pc = .ok (.lload i, 2)) (q : Nat) (hq : lv[q]? = some (i, .long x)) (k : GM p l e R s m args below meth c D ad n w nL Qz o S (pc + 2) lv (.long x :: st)) : GM p l e R s m args below meth c D ad n w nL Qz o S pc lv (st) :=
  fun z hz H locs ls hP hS hl => lv_lload C.1 C.2.1 hd (lv_at hl q hq) (k z hz H locs ls hP hS hl)
theorem g_aload_n (C : Cx p s m args meth c cc nL own D ty ad n w) {j : Fin 4} {i : Nat} {x : Nat} (hd : decode cc pc = .ok (.aload_n j, 1)) (hi : (j : Nat) = i) (q : Nat) (hq : lv[q]? = some (i, .ref x)) (k : GM p l e R s m args below meth c D ad n w nL Qz o S (pc + 1) lv (.ref x :: st)) : GM p l e R s m args below meth c D ad n w nL Qz o S pc lv (st) :=
  fun z hz H locs ls hP hS hl => lv_aload_n C.1 C.2.1 hd hi (lv_at hl q hq) (k z hz H locs ls hP hS hl)
theorem g_iadd (C : Cx p s m args meth c cc nL own D ty ad n w) {x y : Int32} (hd : decode cc pc = .ok (.iadd, 1))  (k : GM p l e R s m args below meth c D ad n w nL Qz o S (pc + 1) lv (.int (x + y) :: st)) : GM p l e R s m args below meth c D ad n w nL Qz o S pc lv (.int y :: .int x :: st) :=
  fun z hz H locs ls hP hS hl => lv_iadd C.1 C.2.1 hd  (k z hz H locs ls hP hS hl)
theorem g_isub (C : Cx p s m args meth c cc nL own D ty ad n w) {x y : Int32} (hd : decode cc pc = .ok (.isub, 1))  (k : GM p l e R s m args below meth c D ad n w nL Qz o S (pc + 1) lv (.int (x - y) :: st)) : GM p l e R s m args below meth c D ad n w nL Qz o S pc lv (.int y :: .int x :: st) :=
  fun z hz H locs ls hP hS hl => lv_isub C.1 C.2.1 hd  (k z hz H locs ls hP hS hl)
theorem g_imul (C : Cx p s m args meth c cc nL own D ty ad n w) {x y : Int32} (hd : decode cc pc = .ok (.imul, 1))  (k : GM p l e R s m args below meth c D ad n w nL Qz o S (pc + 1) lv (.int (x * y) :: st)) : GM p l e R s m args below meth c D ad n w nL Qz o S pc lv (.int y :: .int x :: st) :=
  fun z hz H locs ls hP hS hl => lv_imul C.1 C.2.1 hd  (k z hz H locs ls hP hS hl)
theorem g_iand (C : Cx p s m args meth c cc nL own D ty ad n w) {x y : Int32} (hd : decode cc pc = .ok (.iand, 1))  (k : GM p l e R s m args below meth c D ad n w nL Qz o S (pc + 1) lv (.int (x &&& y) :: st)) : GM p l e R s m args below meth c D ad n w nL Qz o S pc lv (.int y :: .int x :: st) :=
  fun z hz H locs ls hP hS hl => lv_iand C.1 C.2.1 hd  (k z hz H locs ls hP hS hl)
theorem g_ior (C : Cx p s m args meth c cc nL own D ty ad n w) {x y : Int32} (hd : decode cc pc = .ok (.ior, 1))  (k : GM p l e R s m args below meth c D ad n w nL Qz o S (pc + 1) lv (.int (x ||| y) :: st)) : GM p l e R s m args below meth c D ad n w nL Qz o S pc lv (.int y :: .int x :: st) :=
  fun z hz H locs ls hP hS hl => lv_ior C.1 C.2.1 hd  (k z hz H locs ls hP hS hl)
theorem g_ixor (C : Cx p s m args meth c cc nL own D ty ad n w) {x y : Int32} (hd : decode cc pc = .ok (.ixor, 1))  (k : GM p l e R s m args below meth c D ad n w nL Qz o S (pc + 1) lv (.int (x ^^^ y) :: st)) : GM p l e R s m args below meth c D ad n w nL Qz o S pc lv (.int y :: .int x :: st) :=
  fun z hz H locs ls hP hS hl => lv_ixor C.1 C.2.1 hd  (k z hz H locs ls hP hS hl)
theorem g_ishl (C : Cx p s m args meth c cc nL own D ty ad n w) {x y : Int32} (hd : decode cc pc = .ok (.ishl, 1))  (k : GM p l e R s m args below meth c D ad n w nL Qz o S (pc + 1) lv (.int (x <<< (y &&& 31)) :: st)) : GM p l e R s m args below meth c D ad n w nL Qz o S pc lv (.int y :: .int x :: st) :=
  fun z hz H locs ls hP hS hl => lv_ishl C.1 C.2.1 hd  (k z hz H locs ls hP hS hl)
theorem g_ishr (C : Cx p s m args meth c cc nL own D ty ad n w) {x y : Int32} (hd : decode cc pc = .ok (.ishr, 1))  (k : GM p l e R s m args below meth c D ad n w nL Qz o S (pc + 1) lv (.int (x >>> (y &&& 31)) :: st)) : GM p l e R s m args below meth c D ad n w nL Qz o S pc lv (.int y :: .int x :: st) :=
  fun z hz H locs ls hP hS hl => lv_ishr C.1 C.2.1 hd  (k z hz H locs ls hP hS hl)
theorem g_ladd (C : Cx p s m args meth c cc nL own D ty ad n w) {x y : Int64} (hd : decode cc pc = .ok (.ladd, 1))  (k : GM p l e R s m args below meth c D ad n w nL Qz o S (pc + 1) lv (.long (x + y) :: st)) : GM p l e R s m args below meth c D ad n w nL Qz o S pc lv (.long y :: .long x :: st) :=
  fun z hz H locs ls hP hS hl => lv_ladd C.1 C.2.1 hd  (k z hz H locs ls hP hS hl)
theorem g_lsub (C : Cx p s m args meth c cc nL own D ty ad n w) {x y : Int64} (hd : decode cc pc = .ok (.lsub, 1))  (k : GM p l e R s m args below meth c D ad n w nL Qz o S (pc + 1) lv (.long (x - y) :: st)) : GM p l e R s m args below meth c D ad n w nL Qz o S pc lv (.long y :: .long x :: st) :=
  fun z hz H locs ls hP hS hl => lv_lsub C.1 C.2.1 hd  (k z hz H locs ls hP hS hl)
theorem g_lmul (C : Cx p s m args meth c cc nL own D ty ad n w) {x y : Int64} (hd : decode cc pc = .ok (.lmul, 1))  (k : GM p l e R s m args below meth c D ad n w nL Qz o S (pc + 1) lv (.long (x * y) :: st)) : GM p l e R s m args below meth c D ad n w nL Qz o S pc lv (.long y :: .long x :: st) :=
  fun z hz H locs ls hP hS hl => lv_lmul C.1 C.2.1 hd  (k z hz H locs ls hP hS hl)
theorem g_land (C : Cx p s m args meth c cc nL own D ty ad n w) {x y : Int64} (hd : decode cc pc = .ok (.land, 1))  (k : GM p l e R s m args below meth c D ad n w nL Qz o S (pc + 1) lv (.long (x &&& y) :: st)) : GM p l e R s m args below meth c D ad n w nL Qz o S pc lv (.long y :: .long x :: st) :=
  fun z hz H locs ls hP hS hl => lv_land C.1 C.2.1 hd  (k z hz H locs ls hP hS hl)
theorem g_ineg (C : Cx p s m args meth c cc nL own D ty ad n w) {x : Int32} (hd : decode cc pc = .ok (.ineg, 1))  (k : GM p l e R s m args below meth c D ad n w nL Qz o S (pc + 1) lv (.int (-x) :: st)) : GM p l e R s m args below meth c D ad n w nL Qz o S pc lv (.int x :: st) :=
  fun z hz H locs ls hP hS hl => lv_ineg C.1 C.2.1 hd  (k z hz H locs ls hP hS hl)
theorem g_iushr (C : Cx p s m args meth c cc nL own D ty ad n w) {x y : Int32} (hd : decode cc pc = .ok (.iushr, 1))  (k : GM p l e R s m args below meth c D ad n w nL Qz o S (pc + 1) lv (.int ((x.toUInt32 >>> (y.toUInt32 &&& Int32.toUInt32 31)).toInt32) :: st)) : GM p l e R s m args below meth c D ad n w nL Qz o S pc lv (.int y :: .int x :: st) :=
  fun z hz H locs ls hP hS hl => lv_iushr C.1 C.2.1 hd rfl (k z hz H locs ls hP hS hl)
theorem g_lshr (C : Cx p s m args meth c cc nL own D ty ad n w) {x : Int64} {y : Int32} (hd : decode cc pc = .ok (.lshr, 1))  (k : GM p l e R s m args below meth c D ad n w nL Qz o S (pc + 1) lv (.long (x >>> (y.toInt64 &&& 63)) :: st)) : GM p l e R s m args below meth c D ad n w nL Qz o S pc lv (.int y :: .long x :: st) :=
  fun z hz H locs ls hP hS hl => lv_lshr C.1 C.2.1 hd rfl (k z hz H locs ls hP hS hl)
theorem g_i2l (C : Cx p s m args meth c cc nL own D ty ad n w) {x : Int32} (hd : decode cc pc = .ok (.i2l, 1))  (k : GM p l e R s m args below meth c D ad n w nL Qz o S (pc + 1) lv (.long x.toInt64 :: st)) : GM p l e R s m args below meth c D ad n w nL Qz o S pc lv (.int x :: st) :=
  fun z hz H locs ls hP hS hl => lv_i2l C.1 C.2.1 hd rfl (k z hz H locs ls hP hS hl)
theorem g_i2b (C : Cx p s m args meth c cc nL own D ty ad n w) {x : Int32} (hd : decode cc pc = .ok (.i2b, 1))  (k : GM p l e R s m args below meth c D ad n w nL Qz o S (pc + 1) lv (.int x.toInt8.toInt32 :: st)) : GM p l e R s m args below meth c D ad n w nL Qz o S pc lv (.int x :: st) :=
  fun z hz H locs ls hP hS hl => lv_i2b C.1 C.2.1 hd rfl (k z hz H locs ls hP hS hl)
theorem g_i2s (C : Cx p s m args meth c cc nL own D ty ad n w) {x : Int32} (hd : decode cc pc = .ok (.i2s, 1))  (k : GM p l e R s m args below meth c D ad n w nL Qz o S (pc + 1) lv (.int x.toInt16.toInt32 :: st)) : GM p l e R s m args below meth c D ad n w nL Qz o S pc lv (.int x :: st) :=
  fun z hz H locs ls hP hS hl => lv_i2s C.1 C.2.1 hd rfl (k z hz H locs ls hP hS hl)
theorem g_lcmp (C : Cx p s m args meth c cc nL own D ty ad n w) {x y : Int64} (hd : decode cc pc = .ok (.lcmp, 1))  (k : GM p l e R s m args below meth c D ad n w nL Qz o S (pc + 1) lv (.int (lg_cmp x y) :: st)) : GM p l e R s m args below meth c D ad n w nL Qz o S pc lv (.long y :: .long x :: st) :=
  fun z hz H locs ls hP hS hl => W.lcmp C.1 C.2.1 hd  (k z hz H locs ls hP hS hl)
theorem g_dup (C : Cx p s m args meth c cc nL own D ty ad n w) {va : Value} (hd : decode cc pc = .ok (.dup, 1)) (hva : va.category = 1) (k : GM p l e R s m args below meth c D ad n w nL Qz o S (pc + 1) lv (va :: va :: st)) : GM p l e R s m args below meth c D ad n w nL Qz o S pc lv (va :: st) :=
  fun z hz H locs ls hP hS hl => lv_dup C.1 C.2.1 hd hva (k z hz H locs ls hP hS hl)
theorem g_pop (C : Cx p s m args meth c cc nL own D ty ad n w) {va : Value} (hd : decode cc pc = .ok (.pop, 1)) (hva : va.category = 1) (k : GM p l e R s m args below meth c D ad n w nL Qz o S (pc + 1) lv (st)) : GM p l e R s m args below meth c D ad n w nL Qz o S pc lv (va :: st) :=
  fun z hz H locs ls hP hS hl => lv_pop C.1 C.2.1 hd hva (k z hz H locs ls hP hS hl)
theorem g_dup2 (C : Cx p s m args meth c cc nL own D ty ad n w) {va vb : Value} (hd : decode cc pc = .ok (.dup2, 1)) (hva : va.category = 1) (hvb : vb.category = 1) (k : GM p l e R s m args below meth c D ad n w nL Qz o S (pc + 1) lv (va :: vb :: va :: vb :: st)) : GM p l e R s m args below meth c D ad n w nL Qz o S pc lv (va :: vb :: st) :=
  fun z hz H locs ls hP hS hl => lv_dup2_11 C.1 C.2.1 hd hva hvb (k z hz H locs ls hP hS hl)
theorem g_ldc (C : Cx p s m args meth c cc nL own D ty ad n w) {i : Nat} {v : Int32} (hq : Cond.constant own i v ∈ lw_tb) (hd : decode cc pc = .ok (.ldc i, 2)) (k : GM p l e R s m args below meth c D ad n w nL Qz o S (pc + 2) lv (.int v :: st)) : GM p l e R s m args below meth c D ad n w nL Qz o S pc lv st :=
  fun z hz H locs ls hP hS hl => lv_ldc C.1 C.2.1 C.2.2.2.1 (C.2.2.2.2.1 _ hq) hd (k z hz H locs ls hP hS hl)
theorem g_ldcw (C : Cx p s m args meth c cc nL own D ty ad n w) {i : Nat} {v : Int32} (hq : Cond.constant own i v ∈ lw_tb) (hd : decode cc pc = .ok (.ldc_w i, 3)) (k : GM p l e R s m args below meth c D ad n w nL Qz o S (pc + 3) lv (.int v :: st)) : GM p l e R s m args below meth c D ad n w nL Qz o S pc lv st :=
  fun z hz H locs ls hP hS hl => lv_ldcw C.1 C.2.1 C.2.2.2.1 (C.2.2.2.2.1 _ hq) hd (k z hz H locs ls hP hS hl)
theorem g_ldc2 (C : Cx p s m args meth c cc nL own D ty ad n w) {i : Nat} {v : Int64} (hq : Cond.constantLong own i v ∈ lw_tb) (hd : decode cc pc = .ok (.ldc2_w i, 3)) (k : GM p l e R s m args below meth c D ad n w nL Qz o S (pc + 3) lv (.long v :: st)) : GM p l e R s m args below meth c D ad n w nL Qz o S pc lv st :=
  fun z hz H locs ls hP hS hl => lv_ldc2 C.1 C.2.1 C.2.2.2.1 (C.2.2.2.2.1 _ hq) hd (k z hz H locs ls hP hS hl)
theorem g_idiv (C : Cx p s m args meth c cc nL own D ty ad n w) {x y : Int32} (hd : decode cc pc = .ok (.idiv, 1)) (k : GM p l e R s m args below meth c D ad n w nL Qz o S (pc + 1) lv (.int (x / y) :: st)) : GM p l e R s m args below meth c D ad n w nL Qz (dchk y o) S pc lv (.int y :: .int x :: st) := by
  intro z hz H locs ls hP hS hl
  unfold dchk at hz
  split at hz
  · cases hz
  · exact lv_idiv C.1 C.2.1 hd (by assumption) (k z hz H locs ls hP hS hl)
theorem g_irem (C : Cx p s m args meth c cc nL own D ty ad n w) {x y : Int32} (hd : decode cc pc = .ok (.irem, 1)) (k : GM p l e R s m args below meth c D ad n w nL Qz o S (pc + 1) lv (.int (x - x / y * y) :: st)) : GM p l e R s m args below meth c D ad n w nL Qz (dchk y o) S pc lv (.int y :: .int x :: st) := by
  intro z hz H locs ls hP hS hl
  unfold dchk at hz
  split at hz
  · cases hz
  · exact lv_irem C.1 C.2.1 hd (by assumption) (k z hz H locs ls hP hS hl)
theorem g_ldiv (C : Cx p s m args meth c cc nL own D ty ad n w) {x y : Int64} (hd : decode cc pc = .ok (.ldiv, 1)) (k : GM p l e R s m args below meth c D ad n w nL Qz o S (pc + 1) lv (.long (x / y) :: st)) : GM p l e R s m args below meth c D ad n w nL Qz (dchkL y o) S pc lv (.long y :: .long x :: st) := by
  intro z hz H locs ls hP hS hl
  unfold dchkL at hz
  split at hz
  · cases hz
  · exact lv_ldiv C.1 C.2.1 hd (by assumption) (k z hz H locs ls hP hS hl)
theorem g_lrem (C : Cx p s m args meth c cc nL own D ty ad n w) {x y : Int64} (hd : decode cc pc = .ok (.lrem, 1)) (k : GM p l e R s m args below meth c D ad n w nL Qz o S (pc + 1) lv (.long (x - x / y * y) :: st)) : GM p l e R s m args below meth c D ad n w nL Qz (dchkL y o) S pc lv (.long y :: .long x :: st) := by
  intro z hz H locs ls hP hS hl
  unfold dchkL at hz
  split at hz
  · cases hz
  · exact lv_lrem C.1 C.2.1 hd (by assumption) (k z hz H locs ls hP hS hl)
theorem g_istore_n (C : Cx p s m args meth c cc nL own D ty ad n w) {j : Fin 4} {i : Nat} {x : Int32} {lv2 : List (Nat × Value)} (hd : decode cc pc = .ok (.istore_n j, 1)) (hi : (j : Nat) = i) (hn : i < nL) (h2 : (i, Value.int x) :: lv.filter (fun q => !(q.1 == i) && !(q.1 + 1 == i && q.2.category == 2)) = lv2) (k : GM p l e R s m args below meth c D ad n w nL Qz o S (pc + 1) lv2 st) : GM p l e R s m args below meth c D ad n w nL Qz o S pc lv (.int x :: st) :=
  fun z hz H locs ls hP hS hl => lv_istore_n C.1 C.2.1 hd hi hl hn h2 (fun ls2 hl2 => k z hz H locs ls2 hP hS hl2)
theorem g_istore (C : Cx p s m args meth c cc nL own D ty ad n w) {j : Fin 4} {i : Nat} {x : Int32} {lv2 : List (Nat × Value)} (hd : decode cc pc = .ok (.istore i, 2)) (hn : i < nL) (h2 : (i, Value.int x) :: lv.filter (fun q => !(q.1 == i) && !(q.1 + 1 == i && q.2.category == 2)) = lv2) (k : GM p l e R s m args below meth c D ad n w nL Qz o S (pc + 2) lv2 st) : GM p l e R s m args below meth c D ad n w nL Qz o S pc lv (.int x :: st) :=
  fun z hz H locs ls hP hS hl => lv_istore C.1 C.2.1 hd hl hn h2 (fun ls2 hl2 => k z hz H locs ls2 hP hS hl2)
theorem g_lstore_n (C : Cx p s m args meth c cc nL own D ty ad n w) {j : Fin 4} {i : Nat} {x : Int64} {lv2 : List (Nat × Value)} (hd : decode cc pc = .ok (.lstore_n j, 1)) (hi : (j : Nat) = i) (hn : i + 1 < nL) (h2 : (i, Value.long x) :: lv.filter (fun q => !(q.1 == i) && (!(q.1 == i + 1) && !(q.1 + 1 == i && q.2.category == 2))) = lv2) (k : GM p l e R s m args below meth c D ad n w nL Qz o S (pc + 1) lv2 st) : GM p l e R s m args below meth c D ad n w nL Qz o S pc lv (.long x :: st) :=
  fun z hz H locs ls hP hS hl => lv_lstore_n C.1 C.2.1 hd hi hl hn h2 (fun ls2 hl2 => k z hz H locs ls2 hP hS hl2)
theorem g_lstore (C : Cx p s m args meth c cc nL own D ty ad n w) {j : Fin 4} {i : Nat} {x : Int64} {lv2 : List (Nat × Value)} (hd : decode cc pc = .ok (.lstore i, 2)) (hn : i + 1 < nL) (h2 : (i, Value.long x) :: lv.filter (fun q => !(q.1 == i) && (!(q.1 == i + 1) && !(q.1 + 1 == i && q.2.category == 2))) = lv2) (k : GM p l e R s m args below meth c D ad n w nL Qz o S (pc + 2) lv2 st) : GM p l e R s m args below meth c D ad n w nL Qz o S pc lv (.long x :: st) :=
  fun z hz H locs ls hP hS hl => lv_lstore C.1 C.2.1 hd hl hn h2 (fun ls2 hl2 => k z hz H locs ls2 hP hS hl2)
theorem g_astore_n (C : Cx p s m args meth c cc nL own D ty ad n w) {j : Fin 4} {i : Nat} {x : Nat} {lv2 : List (Nat × Value)} (hd : decode cc pc = .ok (.astore_n j, 1)) (hi : (j : Nat) = i) (hn : i < nL) (h2 : (i, Value.ref x) :: lv.filter (fun q => !(q.1 == i) && !(q.1 + 1 == i && q.2.category == 2)) = lv2) (k : GM p l e R s m args below meth c D ad n w nL Qz o S (pc + 1) lv2 st) : GM p l e R s m args below meth c D ad n w nL Qz o S pc lv (.ref x :: st) :=
  fun z hz H locs ls hP hS hl => lv_astore_n C.1 C.2.1 hd hi hl hn h2 (fun ls2 hl2 => k z hz H locs ls2 hP hS hl2)
theorem g_iinc (C : Cx p s m args meth c cc nL own D ty ad n w) {i : Nat} {a : Int} {x v : Int32} {lv2 : List (Nat × Value)} (hd : decode cc pc = .ok (.iinc i a, 3)) (q : Nat) (hq : lv[q]? = some (i, .int x)) (hv : x + Int32.ofInt a = v) (hn : i < nL) (h2 : (i, Value.int v) :: lv.filter (fun q => !(q.1 == i) && !(q.1 + 1 == i && q.2.category == 2)) = lv2) (k : GM p l e R s m args below meth c D ad n w nL Qz o S (pc + 3) lv2 st) : GM p l e R s m args below meth c D ad n w nL Qz o S pc lv st :=
  fun z hz H locs ls hP hS hl => lv_iinc C.1 C.2.1 hd hl hq hv hn h2 (fun ls2 hl2 => k z hz H locs ls2 hP hS hl2)
theorem g_icmp_eq (C : Cx p s m args meth c cc nL own D ty ad n w) {x y : Int32} {off : Int} {tgt : Nat} (hd : decode cc pc = .ok (.if_icmp .eq off, 3)) (ht : (pc : Int) + off = (tgt : Int)) (kt : GM p l e R s m args below meth c D ad n w nL Qz o1 S tgt lv st) (kf : GM p l e R s m args below meth c D ad n w nL Qz o2 S (pc + 3) lv st) : GM p l e R s m args below meth c D ad n w nL Qz (if x = y then o1 else o2) S pc lv (.int y :: .int x :: st) :=
  fun z hz H locs ls hP hS hl => lv_icmp_eq C.1 C.2.1 hd ht (fun h => kt z (by rw [if_pos h] at hz; exact hz) H locs ls hP hS hl) (fun h => kf z (by rw [if_neg h] at hz; exact hz) H locs ls hP hS hl)
theorem g_icmp_ne (C : Cx p s m args meth c cc nL own D ty ad n w) {x y : Int32} {off : Int} {tgt : Nat} (hd : decode cc pc = .ok (.if_icmp .ne off, 3)) (ht : (pc : Int) + off = (tgt : Int)) (kt : GM p l e R s m args below meth c D ad n w nL Qz o2 S tgt lv st) (kf : GM p l e R s m args below meth c D ad n w nL Qz o1 S (pc + 3) lv st) : GM p l e R s m args below meth c D ad n w nL Qz (if x = y then o1 else o2) S pc lv (.int y :: .int x :: st) :=
  fun z hz H locs ls hP hS hl => lv_icmp_ne C.1 C.2.1 hd ht (fun h => kt z (by rw [if_neg h] at hz; exact hz) H locs ls hP hS hl) (fun h => kf z (by rw [if_pos h] at hz; exact hz) H locs ls hP hS hl)
theorem g_icmp_lt (C : Cx p s m args meth c cc nL own D ty ad n w) {x y : Int32} {off : Int} {tgt : Nat} (hd : decode cc pc = .ok (.if_icmp .lt off, 3)) (ht : (pc : Int) + off = (tgt : Int)) (kt : GM p l e R s m args below meth c D ad n w nL Qz o1 S tgt lv st) (kf : GM p l e R s m args below meth c D ad n w nL Qz o2 S (pc + 3) lv st) : GM p l e R s m args below meth c D ad n w nL Qz (if x < y then o1 else o2) S pc lv (.int y :: .int x :: st) :=
  fun z hz H locs ls hP hS hl => lv_icmp_lt C.1 C.2.1 hd ht (fun h => kt z (by rw [if_pos h] at hz; exact hz) H locs ls hP hS hl) (fun h => kf z (by rw [if_neg h] at hz; exact hz) H locs ls hP hS hl)
theorem g_icmp_ge (C : Cx p s m args meth c cc nL own D ty ad n w) {x y : Int32} {off : Int} {tgt : Nat} (hd : decode cc pc = .ok (.if_icmp .ge off, 3)) (ht : (pc : Int) + off = (tgt : Int)) (kt : GM p l e R s m args below meth c D ad n w nL Qz o2 S tgt lv st) (kf : GM p l e R s m args below meth c D ad n w nL Qz o1 S (pc + 3) lv st) : GM p l e R s m args below meth c D ad n w nL Qz (if x < y then o1 else o2) S pc lv (.int y :: .int x :: st) :=
  fun z hz H locs ls hP hS hl => lv_icmp_ge C.1 C.2.1 hd ht (fun h => kt z (by rw [if_neg (Int32.not_lt.mpr h)] at hz; exact hz) H locs ls hP hS hl) (fun h => kf z (by rw [if_pos (Classical.byContradiction fun g => h (Int32.not_lt.mp g))] at hz; exact hz) H locs ls hP hS hl)
theorem g_icmp_gt (C : Cx p s m args meth c cc nL own D ty ad n w) {x y : Int32} {off : Int} {tgt : Nat} (hd : decode cc pc = .ok (.if_icmp .gt off, 3)) (ht : (pc : Int) + off = (tgt : Int)) (kt : GM p l e R s m args below meth c D ad n w nL Qz o1 S tgt lv st) (kf : GM p l e R s m args below meth c D ad n w nL Qz o2 S (pc + 3) lv st) : GM p l e R s m args below meth c D ad n w nL Qz (if y < x then o1 else o2) S pc lv (.int y :: .int x :: st) :=
  fun z hz H locs ls hP hS hl => lv_icmp_gt C.1 C.2.1 hd ht (fun h => kt z (by rw [if_pos h] at hz; exact hz) H locs ls hP hS hl) (fun h => kf z (by rw [if_neg h] at hz; exact hz) H locs ls hP hS hl)
theorem g_icmp_le (C : Cx p s m args meth c cc nL own D ty ad n w) {x y : Int32} {off : Int} {tgt : Nat} (hd : decode cc pc = .ok (.if_icmp .le off, 3)) (ht : (pc : Int) + off = (tgt : Int)) (kt : GM p l e R s m args below meth c D ad n w nL Qz o2 S tgt lv st) (kf : GM p l e R s m args below meth c D ad n w nL Qz o1 S (pc + 3) lv st) : GM p l e R s m args below meth c D ad n w nL Qz (if y < x then o1 else o2) S pc lv (.int y :: .int x :: st) :=
  fun z hz H locs ls hP hS hl => lv_icmp_le C.1 C.2.1 hd ht (fun h => kt z (by rw [if_neg (Int32.not_lt.mpr h)] at hz; exact hz) H locs ls hP hS hl) (fun h => kf z (by rw [if_pos (Classical.byContradiction fun g => h (Int32.not_lt.mp g))] at hz; exact hz) H locs ls hP hS hl)
theorem g_if_eq (C : Cx p s m args meth c cc nL own D ty ad n w) {x : Int32} {off : Int} {tgt : Nat} (hd : decode cc pc = .ok (.ifCond .eq off, 3)) (ht : (pc : Int) + off = (tgt : Int)) (kt : GM p l e R s m args below meth c D ad n w nL Qz o1 S tgt lv st) (kf : GM p l e R s m args below meth c D ad n w nL Qz o2 S (pc + 3) lv st) : GM p l e R s m args below meth c D ad n w nL Qz (if x = 0 then o1 else o2) S pc lv (.int x :: st) :=
  fun z hz H locs ls hP hS hl => lv_if_eq C.1 C.2.1 hd ht (fun h => kt z (by rw [if_pos h] at hz; exact hz) H locs ls hP hS hl) (fun h => kf z (by rw [if_neg h] at hz; exact hz) H locs ls hP hS hl)
theorem g_if_ne (C : Cx p s m args meth c cc nL own D ty ad n w) {x : Int32} {off : Int} {tgt : Nat} (hd : decode cc pc = .ok (.ifCond .ne off, 3)) (ht : (pc : Int) + off = (tgt : Int)) (kt : GM p l e R s m args below meth c D ad n w nL Qz o2 S tgt lv st) (kf : GM p l e R s m args below meth c D ad n w nL Qz o1 S (pc + 3) lv st) : GM p l e R s m args below meth c D ad n w nL Qz (if x = 0 then o1 else o2) S pc lv (.int x :: st) :=
  fun z hz H locs ls hP hS hl => lv_if_ne C.1 C.2.1 hd ht (fun h => kt z (by rw [if_neg h] at hz; exact hz) H locs ls hP hS hl) (fun h => kf z (by rw [if_pos h] at hz; exact hz) H locs ls hP hS hl)
theorem g_if_lt (C : Cx p s m args meth c cc nL own D ty ad n w) {x : Int32} {off : Int} {tgt : Nat} (hd : decode cc pc = .ok (.ifCond .lt off, 3)) (ht : (pc : Int) + off = (tgt : Int)) (kt : GM p l e R s m args below meth c D ad n w nL Qz o1 S tgt lv st) (kf : GM p l e R s m args below meth c D ad n w nL Qz o2 S (pc + 3) lv st) : GM p l e R s m args below meth c D ad n w nL Qz (if x < 0 then o1 else o2) S pc lv (.int x :: st) :=
  fun z hz H locs ls hP hS hl => lv_if_lt C.1 C.2.1 hd ht (fun h => kt z (by rw [if_pos h] at hz; exact hz) H locs ls hP hS hl) (fun h => kf z (by rw [if_neg h] at hz; exact hz) H locs ls hP hS hl)
theorem g_if_ge (C : Cx p s m args meth c cc nL own D ty ad n w) {x : Int32} {off : Int} {tgt : Nat} (hd : decode cc pc = .ok (.ifCond .ge off, 3)) (ht : (pc : Int) + off = (tgt : Int)) (kt : GM p l e R s m args below meth c D ad n w nL Qz o2 S tgt lv st) (kf : GM p l e R s m args below meth c D ad n w nL Qz o1 S (pc + 3) lv st) : GM p l e R s m args below meth c D ad n w nL Qz (if x < 0 then o1 else o2) S pc lv (.int x :: st) :=
  fun z hz H locs ls hP hS hl => lv_if_ge C.1 C.2.1 hd ht (fun h => kt z (by rw [if_neg (Int32.not_lt.mpr h)] at hz; exact hz) H locs ls hP hS hl) (fun h => kf z (by rw [if_pos (Classical.byContradiction fun g => h (Int32.not_lt.mp g))] at hz; exact hz) H locs ls hP hS hl)
theorem g_if_gt (C : Cx p s m args meth c cc nL own D ty ad n w) {x : Int32} {off : Int} {tgt : Nat} (hd : decode cc pc = .ok (.ifCond .gt off, 3)) (ht : (pc : Int) + off = (tgt : Int)) (kt : GM p l e R s m args below meth c D ad n w nL Qz o1 S tgt lv st) (kf : GM p l e R s m args below meth c D ad n w nL Qz o2 S (pc + 3) lv st) : GM p l e R s m args below meth c D ad n w nL Qz (if 0 < x then o1 else o2) S pc lv (.int x :: st) :=
  fun z hz H locs ls hP hS hl => lv_if_gt C.1 C.2.1 hd ht (fun h => kt z (by rw [if_pos h] at hz; exact hz) H locs ls hP hS hl) (fun h => kf z (by rw [if_neg h] at hz; exact hz) H locs ls hP hS hl)
theorem g_if_le (C : Cx p s m args meth c cc nL own D ty ad n w) {x : Int32} {off : Int} {tgt : Nat} (hd : decode cc pc = .ok (.ifCond .le off, 3)) (ht : (pc : Int) + off = (tgt : Int)) (kt : GM p l e R s m args below meth c D ad n w nL Qz o2 S tgt lv st) (kf : GM p l e R s m args below meth c D ad n w nL Qz o1 S (pc + 3) lv st) : GM p l e R s m args below meth c D ad n w nL Qz (if 0 < x then o1 else o2) S pc lv (.int x :: st) :=
  fun z hz H locs ls hP hS hl => lv_if_le C.1 C.2.1 hd ht (fun h => kt z (by rw [if_neg (Int32.not_lt.mpr h)] at hz; exact hz) H locs ls hP hS hl) (fun h => kf z (by rw [if_pos (Classical.byContradiction fun g => h (Int32.not_lt.mp g))] at hz; exact hz) H locs ls hP hS hl)
theorem g_goto (C : Cx p s m args meth c cc nL own D ty ad n w) {off : Int} {tgt : Nat} (hd : decode cc pc = .ok (.goto off, 3)) (ht : (pc : Int) + off = (tgt : Int)) (k : GM p l e R s m args below meth c D ad n w nL Qz o S tgt lv st) : GM p l e R s m args below meth c D ad n w nL Qz o S pc lv st :=
  fun z hz H locs ls hP hS hl => lv_goto C.1 C.2.1 hd ht (k z hz H locs ls hP hS hl)
theorem g_tsw (C : Cx p s m args meth c cc nL own D ty ad n w) {x : Int32} {dflt lo hi : Int} {offs : Array Int} {len tgt : Nat} {ls0 : List (Option ζ)} {d : Option ζ} (hd : decode cc pc = .ok (.tableswitch dflt lo hi offs, len)) (ht : (pc : Int) + dflt = (tgt : Int)) (hlo : (lo + (ls0.length : Int)) = hi + 1) (tg : List Nat) (hoff : ∀ j, j < ls0.length → ∃ of, offs[j]? = some of ∧ (pc : Int) + of = ((tg.getD j 0 : Nat) : Int)) (k0 : GM p l e R s m args below meth c D ad n w nL Qz d S tgt lv st) (k : All2 (fun (o : Option ζ) (t : Nat) => GM p l e R s m args below meth c D ad n w nL Qz o S t lv st) ls0 tg) : GM p l e R s m args below meth c D ad n w nL Qz (tsw x lo hi ls0 d) S pc lv (.int x :: st) := by
  intro z hz H locs ls hP hS hl
  unfold tsw at hz
  by_cases h : x.toInt < lo ∨ hi < x.toInt
  · rw [if_pos h] at hz
    exact lv_tableOut C.1 C.2.1 hd h ht (k0 z hz H locs ls hP hS hl)
  · rw [if_neg h] at hz
    have hj : (x.toInt - lo).toNat < ls0.length := by omega
    obtain ⟨of, h1, h2⟩ := hoff _ hj
    exact lv_tableIn C.1 C.2.1 hd (fun q => h (Or.inl q)) (fun q => h (Or.inr q)) h1 h2 (k.get _ hj z hz H locs ls hP hS hl)
theorem g_nm {α : Type} {x : α} {kk : α → Option ζ} {f : α → List Value} (k : ∀ y : α, GM p l e R s m args below meth c D ad n w nL Qz (kk y) S pc lv (f y)) : GM p l e R s m args below meth c D ad n w nL Qz (nm x kk) S pc lv (f x) := k x
theorem g_nmi {x : Int32} {kk : Int32 → Option ζ} (k : ∀ y : Int32, GM p l e R s m args below meth c D ad n w nL Qz (kk y) S pc lv (.int y :: st)) : GM p l e R s m args below meth c D ad n w nL Qz (nm x kk) S pc lv (.int x :: st) := k x
theorem g_nml {x : Int64} {kk : Int64 → Option ζ} (k : ∀ y : Int64, GM p l e R s m args below meth c D ad n w nL Qz (kk y) S pc lv (.long y :: st)) : GM p l e R s m args below meth c D ad n w nL Qz (nm x kk) S pc lv (.long x :: st) := k x
theorem g_sub (ks : List Nat) {lv2 : List (Nat × Value)} (h2 : lv_pick lv ks = lv2) (k : GM p l e R s m args below meth c D ad n w nL Qz o S pc lv2 st) : GM p l e R s m args below meth c D ad n w nL Qz o S pc lv st := fun z hz H locs ls hP hS hl => k z hz H locs ls hP hS (lv_sub hl ks h2)
theorem g_eq (h : o1 = o2) (k : GM p l e R s m args below meth c D ad n w nL Qz o2 S pc lv st) : GM p l e R s m args below meth c D ad n w nL Qz o1 S pc lv st := h ▸ k
theorem g_none : GM p l e R s m args below meth c D ad n w nL Qz (none : Option ζ) S pc lv st := fun z hz => by cases hz
theorem g_iret (C : Cx p s m args meth c cc nL own D ty ad n w) (hr : meth.sig.returnType = some .int) {x : Int32} (hd : decode cc pc = .ok (.ireturn, 1)) : GM p l e R s m args below meth c D ad n w nL (QI D w ad n args s below) (some (x, S)) S pc lv [.int x] := by
  intro z hz H locs ls hP hS hl
  cases hz
  exact W.iret (v := x) C.1 C.2.1 hr (fun t ht hW => ⟨⟨x, S, rfl, ⟨rfl, rfl⟩, by show va_P _ _ _ _; rw [ht]; exact hP⟩, hS.F ht⟩) hS.2.2 hd (hlocks := C.2.2.2.2.2.2.2.2)
theorem g_zretq (C : Cx p s m args meth c cc nL own D ty ad n w) (hr : meth.sig.returnType = some .boolean) {x : Int32} (hx : x = 0 ∨ x = 1) (hd : decode cc pc = .ok (.ireturn, 1)) : GM p l e R s m args below meth c D ad n w nL (QI D w ad n args s below) (some (x, S)) S pc lv [.int x] := by
  intro z hz H locs ls hP hS hl
  cases hz
  exact W.zret (v := x) C.1 C.2.1 hr (by rcases hx with rfl | rfl <;> rfl) (fun t ht hW => ⟨⟨x, S, rfl, ⟨rfl, rfl⟩, by show va_P _ _ _ _; rw [ht]; exact hP⟩, hS.F ht⟩) hS.2.2 hd (hlocks := C.2.2.2.2.2.2.2.2)
theorem g_zret (C : Cx p s m args meth c cc nL own D ty ad n w) (hr : meth.sig.returnType = some .boolean) {x : Int32} (hd : decode cc pc = .ok (.ireturn, 1)) : GM p l e R s m args below meth c D ad n w nL (QI D w ad n args s below) (zchk x (some (x, S))) S pc lv [.int x] := by
  intro z hz H locs ls hP hS hl
  unfold zchk at hz
  split at hz
  · exact g_zretq C hr (by assumption) hd z hz H locs ls hP hS hl
  · cases hz
theorem g_lret (C : Cx p s m args meth c cc nL own D ty ad n w) (hr : meth.sig.returnType = some .long) {x : Int64} (hd : decode cc pc = .ok (.lreturn, 1)) : GM p l e R s m args below meth c D ad n w nL (QL D w ad n args s below) (some (x, S)) S pc lv [.long x] := by
  intro z hz H locs ls hP hS hl
  cases hz
  exact W.lret (v := x) C.1 C.2.1 hr (fun t ht hW => ⟨⟨x, S, rfl, ⟨rfl, rfl⟩, by show va_P _ _ _ _; rw [ht]; exact hP⟩, hS.F ht⟩) hS.2.2 hd (hlocks := C.2.2.2.2.2.2.2.2)
theorem g_vret (C : Cx p s m args meth c cc nL own D ty ad n w) (hr : meth.sig.returnType = none) (hd : decode cc pc = .ok (.return_, 1)) : GM p l e R s m args below meth c D ad n w nL (QV D w ad n args s below) (some S) S pc lv [] := by
  intro z hz H locs ls hP hS hl
  cases hz
  exact W.vret C.1 C.2.1 hr (fun t ht hW => ⟨⟨S, rfl, rfl, by show va_P _ _ _ _; rw [ht]; exact hP⟩, hS.F ht⟩) hS.2.2 hd (hlocks := C.2.2.2.2.2.2.2.2)
theorem g_it0 {F : (St → Option ζ) → St → Option ζ} {lvf : List (Nat × Value)} (h : ∀ rec : St → Option ζ, (∀ (S : St), GM p l e R s m args below meth c D ad n w nL Qz (rec S) S pc lvf []) → ∀ (S : St), GM p l e R s m args below meth c D ad n w nL Qz (F rec S) S pc lvf []) : ∀ (N : Nat) (S : St), GM p l e R s m args below meth c D ad n w nL Qz (it0 F N S) S pc lvf [] := by
  intro N
  induction N with
  | zero => intros; exact g_none
  | succ N ih => exact fun S => h _ ih S
theorem g_it1 {α0 : Type} {F : (α0 → St → Option ζ) → α0 → St → Option ζ} {lvf : α0 → List (Nat × Value)} (h : ∀ rec : α0 → St → Option ζ, (∀ (x0 : α0) (S : St), GM p l e R s m args below meth c D ad n w nL Qz (rec x0 S) S pc (lvf x0) []) → ∀ (x0 : α0) (S : St), GM p l e R s m args below meth c D ad n w nL Qz (F rec x0 S) S pc (lvf x0) []) : ∀ (N : Nat) (x0 : α0) (S : St), GM p l e R s m args below meth c D ad n w nL Qz (it1 F N x0 S) S pc (lvf x0) [] := by
  intro N
  induction N with
  | zero => intros; exact g_none
  | succ N ih => exact fun x0 S => h _ ih x0 S
theorem g_it2 {α0 α1 : Type} {F : (α0 → α1 → St → Option ζ) → α0 → α1 → St → Option ζ} {lvf : α0 → α1 → List (Nat × Value)} (h : ∀ rec : α0 → α1 → St → Option ζ, (∀ (x0 : α0) (x1 : α1) (S : St), GM p l e R s m args below meth c D ad n w nL Qz (rec x0 x1 S) S pc (lvf x0 x1) []) → ∀ (x0 : α0) (x1 : α1) (S : St), GM p l e R s m args below meth c D ad n w nL Qz (F rec x0 x1 S) S pc (lvf x0 x1) []) : ∀ (N : Nat) (x0 : α0) (x1 : α1) (S : St), GM p l e R s m args below meth c D ad n w nL Qz (it2 F N x0 x1 S) S pc (lvf x0 x1) [] := by
  intro N
  induction N with
  | zero => intros; exact g_none
  | succ N ih => exact fun x0 x1 S => h _ ih x0 x1 S
theorem g_it3 {α0 α1 α2 : Type} {F : (α0 → α1 → α2 → St → Option ζ) → α0 → α1 → α2 → St → Option ζ} {lvf : α0 → α1 → α2 → List (Nat × Value)} (h : ∀ rec : α0 → α1 → α2 → St → Option ζ, (∀ (x0 : α0) (x1 : α1) (x2 : α2) (S : St), GM p l e R s m args below meth c D ad n w nL Qz (rec x0 x1 x2 S) S pc (lvf x0 x1 x2) []) → ∀ (x0 : α0) (x1 : α1) (x2 : α2) (S : St), GM p l e R s m args below meth c D ad n w nL Qz (F rec x0 x1 x2 S) S pc (lvf x0 x1 x2) []) : ∀ (N : Nat) (x0 : α0) (x1 : α1) (x2 : α2) (S : St), GM p l e R s m args below meth c D ad n w nL Qz (it3 F N x0 x1 x2 S) S pc (lvf x0 x1 x2) [] := by
  intro N
  induction N with
  | zero => intros; exact g_none
  | succ N ih => exact fun x0 x1 x2 S => h _ ih x0 x1 x2 S
theorem g_it4 {α0 α1 α2 α3 : Type} {F : (α0 → α1 → α2 → α3 → St → Option ζ) → α0 → α1 → α2 → α3 → St → Option ζ} {lvf : α0 → α1 → α2 → α3 → List (Nat × Value)} (h : ∀ rec : α0 → α1 → α2 → α3 → St → Option ζ, (∀ (x0 : α0) (x1 : α1) (x2 : α2) (x3 : α3) (S : St), GM p l e R s m args below meth c D ad n w nL Qz (rec x0 x1 x2 x3 S) S pc (lvf x0 x1 x2 x3) []) → ∀ (x0 : α0) (x1 : α1) (x2 : α2) (x3 : α3) (S : St), GM p l e R s m args below meth c D ad n w nL Qz (F rec x0 x1 x2 x3 S) S pc (lvf x0 x1 x2 x3) []) : ∀ (N : Nat) (x0 : α0) (x1 : α1) (x2 : α2) (x3 : α3) (S : St), GM p l e R s m args below meth c D ad n w nL Qz (it4 F N x0 x1 x2 x3 S) S pc (lvf x0 x1 x2 x3) [] := by
  intro N
  induction N with
  | zero => intros; exact g_none
  | succ N ih => exact fun x0 x1 x2 x3 S => h _ ih x0 x1 x2 x3 S
theorem g_it5 {α0 α1 α2 α3 α4 : Type} {F : (α0 → α1 → α2 → α3 → α4 → St → Option ζ) → α0 → α1 → α2 → α3 → α4 → St → Option ζ} {lvf : α0 → α1 → α2 → α3 → α4 → List (Nat × Value)} (h : ∀ rec : α0 → α1 → α2 → α3 → α4 → St → Option ζ, (∀ (x0 : α0) (x1 : α1) (x2 : α2) (x3 : α3) (x4 : α4) (S : St), GM p l e R s m args below meth c D ad n w nL Qz (rec x0 x1 x2 x3 x4 S) S pc (lvf x0 x1 x2 x3 x4) []) → ∀ (x0 : α0) (x1 : α1) (x2 : α2) (x3 : α3) (x4 : α4) (S : St), GM p l e R s m args below meth c D ad n w nL Qz (F rec x0 x1 x2 x3 x4 S) S pc (lvf x0 x1 x2 x3 x4) []) : ∀ (N : Nat) (x0 : α0) (x1 : α1) (x2 : α2) (x3 : α3) (x4 : α4) (S : St), GM p l e R s m args below meth c D ad n w nL Qz (it5 F N x0 x1 x2 x3 x4 S) S pc (lvf x0 x1 x2 x3 x4) [] := by
  intro N
  induction N with
  | zero => intros; exact g_none
  | succ N ih => exact fun x0 x1 x2 x3 x4 S => h _ ih x0 x1 x2 x3 x4 S
theorem g_it6 {α0 α1 α2 α3 α4 α5 : Type} {F : (α0 → α1 → α2 → α3 → α4 → α5 → St → Option ζ) → α0 → α1 → α2 → α3 → α4 → α5 → St → Option ζ} {lvf : α0 → α1 → α2 → α3 → α4 → α5 → List (Nat × Value)} (h : ∀ rec : α0 → α1 → α2 → α3 → α4 → α5 → St → Option ζ, (∀ (x0 : α0) (x1 : α1) (x2 : α2) (x3 : α3) (x4 : α4) (x5 : α5) (S : St), GM p l e R s m args below meth c D ad n w nL Qz (rec x0 x1 x2 x3 x4 x5 S) S pc (lvf x0 x1 x2 x3 x4 x5) []) → ∀ (x0 : α0) (x1 : α1) (x2 : α2) (x3 : α3) (x4 : α4) (x5 : α5) (S : St), GM p l e R s m args below meth c D ad n w nL Qz (F rec x0 x1 x2 x3 x4 x5 S) S pc (lvf x0 x1 x2 x3 x4 x5) []) : ∀ (N : Nat) (x0 : α0) (x1 : α1) (x2 : α2) (x3 : α3) (x4 : α4) (x5 : α5) (S : St), GM p l e R s m args below meth c D ad n w nL Qz (it6 F N x0 x1 x2 x3 x4 x5 S) S pc (lvf x0 x1 x2 x3 x4 x5) [] := by
  intro N
  induction N with
  | zero => intros; exact g_none
  | succ N ih => exact fun x0 x1 x2 x3 x4 x5 S => h _ ih x0 x1 x2 x3 x4 x5 S
theorem g_it7 {α0 α1 α2 α3 α4 α5 α6 : Type} {F : (α0 → α1 → α2 → α3 → α4 → α5 → α6 → St → Option ζ) → α0 → α1 → α2 → α3 → α4 → α5 → α6 → St → Option ζ} {lvf : α0 → α1 → α2 → α3 → α4 → α5 → α6 → List (Nat × Value)} (h : ∀ rec : α0 → α1 → α2 → α3 → α4 → α5 → α6 → St → Option ζ, (∀ (x0 : α0) (x1 : α1) (x2 : α2) (x3 : α3) (x4 : α4) (x5 : α5) (x6 : α6) (S : St), GM p l e R s m args below meth c D ad n w nL Qz (rec x0 x1 x2 x3 x4 x5 x6 S) S pc (lvf x0 x1 x2 x3 x4 x5 x6) []) → ∀ (x0 : α0) (x1 : α1) (x2 : α2) (x3 : α3) (x4 : α4) (x5 : α5) (x6 : α6) (S : St), GM p l e R s m args below meth c D ad n w nL Qz (F rec x0 x1 x2 x3 x4 x5 x6 S) S pc (lvf x0 x1 x2 x3 x4 x5 x6) []) : ∀ (N : Nat) (x0 : α0) (x1 : α1) (x2 : α2) (x3 : α3) (x4 : α4) (x5 : α5) (x6 : α6) (S : St), GM p l e R s m args below meth c D ad n w nL Qz (it7 F N x0 x1 x2 x3 x4 x5 x6 S) S pc (lvf x0 x1 x2 x3 x4 x5 x6) [] := by
  intro N
  induction N with
  | zero => intros; exact g_none
  | succ N ih => exact fun x0 x1 x2 x3 x4 x5 x6 S => h _ ih x0 x1 x2 x3 x4 x5 x6 S
theorem g_it8 {α0 α1 α2 α3 α4 α5 α6 α7 : Type} {F : (α0 → α1 → α2 → α3 → α4 → α5 → α6 → α7 → St → Option ζ) → α0 → α1 → α2 → α3 → α4 → α5 → α6 → α7 → St → Option ζ} {lvf : α0 → α1 → α2 → α3 → α4 → α5 → α6 → α7 → List (Nat × Value)} (h : ∀ rec : α0 → α1 → α2 → α3 → α4 → α5 → α6 → α7 → St → Option ζ, (∀ (x0 : α0) (x1 : α1) (x2 : α2) (x3 : α3) (x4 : α4) (x5 : α5) (x6 : α6) (x7 : α7) (S : St), GM p l e R s m args below meth c D ad n w nL Qz (rec x0 x1 x2 x3 x4 x5 x6 x7 S) S pc (lvf x0 x1 x2 x3 x4 x5 x6 x7) []) → ∀ (x0 : α0) (x1 : α1) (x2 : α2) (x3 : α3) (x4 : α4) (x5 : α5) (x6 : α6) (x7 : α7) (S : St), GM p l e R s m args below meth c D ad n w nL Qz (F rec x0 x1 x2 x3 x4 x5 x6 x7 S) S pc (lvf x0 x1 x2 x3 x4 x5 x6 x7) []) : ∀ (N : Nat) (x0 : α0) (x1 : α1) (x2 : α2) (x3 : α3) (x4 : α4) (x5 : α5) (x6 : α6) (x7 : α7) (S : St), GM p l e R s m args below meth c D ad n w nL Qz (it8 F N x0 x1 x2 x3 x4 x5 x6 x7 S) S pc (lvf x0 x1 x2 x3 x4 x5 x6 x7) [] := by
  intro N
  induction N with
  | zero => intros; exact g_none
  | succ N ih => exact fun x0 x1 x2 x3 x4 x5 x6 x7 S => h _ ih x0 x1 x2 x3 x4 x5 x6 x7 S
theorem g_get (C : Cx p s m args meth c cc nL own D ty ad n w) (q0 : Nat) {a ci N idx : Nat} {CC ref : String} {T : u_T} {fs : List Value} (he : (w S)[q0]? = some (a, .inr (ci, fs))) (hc : clsX[ci]? = some (CC, T, N)) (hin : ∀ w ∈ u_ws CC T N, w ∈ lw_tb) (k : Nat) (hk : k < N) {v : Value} (href : (T k).1 = ref) (hl : Cond.fieldLink own idx ref (T k).2.1 (T k).2.2.1 ∈ lw_tb) (hv : fs[k]? = some v) (hd : decode cc pc = .ok (.getfield idx, 3)) (kk : GM p l e R s m args below meth c D ad n w nL Qz o S (pc + 3) lv (v :: st)) : GM p l e R s m args below meth c D ad n w nL Qz o S pc lv (.ref a :: st) :=
  fun z hz H locs ls hP hS hl2 => va_get C.1 C.2.1 C.2.2.2.2.1 hin C.2.2.2.1 C.2.2.2.2.2.1 hP q0 he hc k hk (C.2.2.2.2.1 _ hl) (fun _ h => href ▸ h) hv hd (kk z hz H locs ls hP hS hl2)
theorem g_getN (C : Cx p s m args meth c cc nL own D ty ad n w) (q0 : Nat) {a ci N idx : Nat} {CC ref : String} {T : u_T} {fs : List Value} (he : (w S)[q0]? = some (a, .inr (ci, fs))) (hc : clsX[ci]? = some (CC, T, N)) (hin : ∀ w ∈ u_ws CC T N, w ∈ lw_tb) (k : Nat) (hk : k < N) {v : Value} {host : String} (href : (T k).1 = ref) (hl : va_Nw (Cond.fieldLinkNest own idx ref (T k).2.1 (T k).2.2.1 host) s) (hv : fs[k]? = some v) (hd : decode cc pc = .ok (.getfield idx, 3)) (kk : GM p l e R s m args below meth c D ad n w nL Qz o S (pc + 3) lv (v :: st)) : GM p l e R s m args below meth c D ad n w nL Qz o S pc lv (.ref a :: st) :=
  fun z hz H locs ls hP hS hl2 => va_getN C.1 C.2.1 C.2.2.2.2.1 hin C.2.2.2.1 C.2.2.2.2.2.1 hP q0 he hc k hk (hl.use rfl) (fun _ h => href ▸ h) hv hd (kk z hz H locs ls hP hS hl2)
theorem g_put (C : Cx p s m args meth c cc nL own D ty ad n w) (q0 : Nat) {a ci N idx : Nat} {CC ref : String} {T : u_T} {fs : List Value} (he : (w S)[q0]? = some (a, .inr (ci, fs))) (hc : clsX[ci]? = some (CC, T, N)) (hin : ∀ w ∈ u_ws CC T N, w ∈ lw_tb) (k : Nat) (hk : k < N) {v : Value} {S2 : St} {kk : St → Option ζ} (href : (T k).1 = ref) (hl : Cond.fieldLink own idx ref (T k).2.1 (T k).2.2.1 ∈ lw_tb) (ty0 : Nat → FieldType) (hty : ∀ k, k < N → parseFieldDescriptor (T k).2.2.1 = some (ty0 k)) (hnm : ∀ a, a < N → ∀ b, b < N → a ≠ b → (T a).2.1 ≠ (T b).2.1) (hfin : (T k).2.2.2 = false) (hn : narrow (ty0 k) v = v) (hfit : fits (ty0 k) v = true) (hlen : k < fs.length) (hw : (w S).set q0 (a, .inr (ci, fs.set k v)) = w S2) (hd : decode cc pc = .ok (.putfield idx, 3)) (k2 : ∀ S2, GM p l e R s m args below meth c D ad n w nL Qz (kk S2) S2 (pc + 3) lv st) : GM p l e R s m args below meth c D ad n w nL Qz (nm S2 kk) S pc lv (v :: .ref a :: st) :=
  fun z hz H locs ls hP hS hl2 => va_put C.1 C.2.1 C.2.2.2.2.1 hin ty0 hty hnm C.2.2.2.1 C.2.2.2.2.2.1 hP (C.2.2.2.2.2.2.2.1 _ S) hS q0 he hc k hk (C.2.2.2.2.1 _ hl) (fun _ h => href ▸ h) hfin (hty k hk) hn hfit hlen hd (fun H1 locs1 hP1 _ hS1 => k2 S2 z hz H1 locs1 ls (hw ▸ hP1) hS1 hl2)
theorem g_iald (C : Cx p s m args meth c cc nL own D ty ad n w) (q0 t0 : Nat) {a : Nat} {cA : ClassId} {N : Nat} {f : Nat → Int32} (ha : (w S)[q0]? = some (a, .inl (cA, N, .inl f))) (ht : ty[t0]? = some (cA, .int)) {i : Int32} (hd : decode cc pc = .ok (.iaload, 1)) (k : GM p l e R s m args below meth c D ad n w nL Qz o S (pc + 1) lv (.int (f (ix i)) :: st)) : GM p l e R s m args below meth c D ad n w nL Qz (chk i N o) S pc lv (.int i :: .ref a :: st) := by
  intro z hz H locs ls hP hS hl
  obtain ⟨h1, h2⟩ := chk_ok hz
  exact va_iald C.1 C.2.1 C.2.2.2.2.2.1 hP q0 t0 ha ht h1 hd (k z h2 H locs ls hP hS hl)
theorem g_zald (C : Cx p s m args meth c cc nL own D ty ad n w) (q0 t0 : Nat) {a : Nat} {cA : ClassId} {N : Nat} {f : Nat → Int32} (ha : (w S)[q0]? = some (a, .inl (cA, N, .inl f))) (ht : ty[t0]? = some (cA, .boolean)) {i : Int32} (hd : decode cc pc = .ok (.baload, 1)) (k : GM p l e R s m args below meth c D ad n w nL Qz o S (pc + 1) lv (.int (f (ix i)) :: st)) : GM p l e R s m args below meth c D ad n w nL Qz (chk i N o) S pc lv (.int i :: .ref a :: st) := by
  intro z hz H locs ls hP hS hl
  obtain ⟨h1, h2⟩ := chk_ok hz
  exact va_zald C.1 C.2.1 C.2.2.2.2.2.1 hP q0 t0 ha ht h1 hd (k z h2 H locs ls hP hS hl)
theorem g_lald (C : Cx p s m args meth c cc nL own D ty ad n w) (q0 t0 : Nat) {a : Nat} {cA : ClassId} {N : Nat} {f : Nat → Int64} (ha : (w S)[q0]? = some (a, .inl (cA, N, .inr (.inl f)))) (ht : ty[t0]? = some (cA, .long)) {i : Int32} (hd : decode cc pc = .ok (.laload, 1)) (k : GM p l e R s m args below meth c D ad n w nL Qz o S (pc + 1) lv (.long (f (ix i)) :: st)) : GM p l e R s m args below meth c D ad n w nL Qz (chk i N o) S pc lv (.int i :: .ref a :: st) := by
  intro z hz H locs ls hP hS hl
  obtain ⟨h1, h2⟩ := chk_ok hz
  exact va_lald C.1 C.2.1 C.2.2.2.2.2.1 hP q0 t0 ha ht h1 hd (k z h2 H locs ls hP hS hl)
theorem g_iast (C : Cx p s m args meth c cc nL own D ty ad n w) (q0 t0 : Nat) {a : Nat} {cA : ClassId} {N : Nat} {f : Nat → Int32} {S2 : St} {kk : St → Option ζ} (ha : (w S)[q0]? = some (a, .inl (cA, N, .inl f))) (ht : ty[t0]? = some (cA, .int)) {i : Int32} {x : Int32} (hw : (w S).set q0 (a, .inl (cA, N, .inl (upd f (ix i) x))) = w S2) (hd : decode cc pc = .ok (.iastore, 1)) (k : ∀ S2, GM p l e R s m args below meth c D ad n w nL Qz (kk S2) S2 (pc + 1) lv st) : GM p l e R s m args below meth c D ad n w nL Qz (chk i N (nm S2 kk)) S pc lv (.int x :: .int i :: .ref a :: st) := by
  intro z hz H locs ls hP hS hl
  obtain ⟨h1, h2⟩ := chk_ok hz
  exact va_iast C.1 C.2.1 C.2.2.2.2.2.1 hP (C.2.2.2.2.2.2.2.1 _ S) hS q0 t0 ha ht h1 hd (fun H1 locs1 hP1 _ hS1 => k S2 z h2 H1 locs1 ls (hw ▸ hP1) hS1 hl)
theorem g_last (C : Cx p s m args meth c cc nL own D ty ad n w) (q0 t0 : Nat) {a : Nat} {cA : ClassId} {N : Nat} {f : Nat → Int64} {S2 : St} {kk : St → Option ζ} (ha : (w S)[q0]? = some (a, .inl (cA, N, .inr (.inl f)))) (ht : ty[t0]? = some (cA, .long)) {i : Int32} {x : Int64} (hw : (w S).set q0 (a, .inl (cA, N, .inr (.inl (vp_updL f (ix i) x)))) = w S2) (hd : decode cc pc = .ok (.lastore, 1)) (k : ∀ S2, GM p l e R s m args below meth c D ad n w nL Qz (kk S2) S2 (pc + 1) lv st) : GM p l e R s m args below meth c D ad n w nL Qz (chk i N (nm S2 kk)) S pc lv (.long x :: .int i :: .ref a :: st) := by
  intro z hz H locs ls hP hS hl
  obtain ⟨h1, h2⟩ := chk_ok hz
  exact va_last C.1 C.2.1 C.2.2.2.2.2.1 hP (C.2.2.2.2.2.2.2.1 _ S) hS q0 t0 ha ht h1 hd (fun H1 locs1 hP1 _ hS1 => k S2 z h2 H1 locs1 ls (hw ▸ hP1) hS1 hl)
theorem g_alen (C : Cx p s m args meth c cc nL own D ty ad n w) (q0 t0 : Nat) {a : Nat} {cA : ClassId} {x : vp_A} {v : Int32} {ety : FieldType} (ha : (w S)[q0]? = some (a, .inl (cA, x))) (ht : ty[t0]? = some (cA, ety)) (hv : Int32.ofNat x.1 = v) (hd : decode cc pc = .ok (.arraylength, 1)) (k : GM p l e R s m args below meth c D ad n w nL Qz o S (pc + 1) lv (.int v :: st)) : GM p l e R s m args below meth c D ad n w nL Qz o S pc lv (.ref a :: st) :=
  fun z hz H locs ls hP hS hl => va_alen C.1 C.2.1 C.2.2.2.2.2.1 hP q0 t0 ha ht hv hd (k z hz H locs ls hP hS hl)
theorem g_zast (C : Cx p s m args meth c cc nL own D ty ad n w) (q0 t0 : Nat) {a : Nat} {cA : ClassId} {N : Nat} {f : Nat → Int32} {S2 : St} {kk : St → Option ζ} (ha : (w S)[q0]? = some (a, .inl (cA, N, .inl f))) (ht : ty[t0]? = some (cA, .boolean)) {i : Int32} {x : Int32} (hx : x = 0 ∨ x = 1) (hw : (w S).set q0 (a, .inl (cA, N, .inl (upd f (ix i) x))) = w S2) (hd : decode cc pc = .ok (.bastore, 1)) (k : ∀ S2, GM p l e R s m args below meth c D ad n w nL Qz (kk S2) S2 (pc + 1) lv st) : GM p l e R s m args below meth c D ad n w nL Qz (chk i N (nm S2 kk)) S pc lv (.int x :: .int i :: .ref a :: st) := by
  intro z hz H locs ls hP hS hl
  obtain ⟨h1, h2⟩ := chk_ok hz
  have e1 : vp_nar .boolean x = x := by rcases hx with rfl | rfl <;> rfl
  refine va_zast C.1 C.2.1 C.2.2.2.2.2.1 hP (C.2.2.2.2.2.2.2.1 _ S) hS q0 t0 ha ht h1 hd (fun H1 locs1 hP1 _ hS1 => ?_)
  rw [e1] at hP1
  exact k S2 z h2 H1 locs1 ls (hw ▸ hP1) hS1 hl
theorem g_copy (C : Cx p s m args meth c cc nL own D ty ad n w) (q0 t0 : Nat) {a idx : Nat} {cA : ClassId} {N : Nat} {f : Nat → Int32} {S2 : St} {kk : St → Option ζ} (ha : (w S)[q0]? = some (a, .inl (cA, N, .inl f))) (ht : ty[t0]? = some (cA, .int)) {sp dp nn : Int32} (hw : (w S).set q0 (a, .inl (cA, N, .inl (va_cpy f f (ix sp) (ix dp) (ix nn)))) = w S2) (hl : Cond.methodLink own idx arraycopyName ∈ lw_tb) (h1 : Cond.native arraycopyName ∈ lw_tb) (h2 : Cond.static arraycopyName ∈ lw_tb) (h3 : Cond.initialized "java/lang/System" ∈ lw_tb) (hf : 1 ≤ R.frames) (hlo : (st.map fun v => v.category).sum + (nativeFrameWords "java/lang/System" "arraycopy" 5 + 11) ≤ R.locals) (hd : decode cc pc = .ok (.invokestatic idx, 3)) (k : ∀ S2, GM p l e R s m args below meth c D ad n w nL Qz (kk S2) S2 (pc + 3) lv st) : GM p l e R s m args below meth c D ad n w nL Qz (cchk sp dp nn N N (nm S2 kk)) S pc lv (.int nn :: .int dp :: .ref a :: .int sp :: .ref a :: st) := by
  intro z hz H locs ls hP hS hl2
  unfold cchk at hz
  split at hz
  · cases hz
  · rename_i hc
    have c1 : ¬ sp < 0 := fun g => hc (Or.inl g)
    have c2 : ¬ dp < 0 := fun g => hc (Or.inr (Or.inl g))
    have c3 : ¬ nn < 0 := fun g => hc (Or.inr (Or.inr (Or.inl g)))
    have c4 : sp.toNatClampNeg + nn.toNatClampNeg ≤ N := Nat.not_lt.mp fun g => hc (Or.inr (Or.inr (Or.inr (Or.inl g))))
    have c5 : dp.toNatClampNeg + nn.toNatClampNeg ≤ N := Nat.not_lt.mp fun g => hc (Or.inr (Or.inr (Or.inr (Or.inr g))))
    exact va_copyi C.1 C.2.1 (by rw [C.2.2.1]; exact hl2.1.symm) C.2.2.2.1 (C.2.2.2.2.1 _ hl) (C.2.2.2.2.1 _ h1) (C.2.2.2.2.1 _ h2) (C.2.2.2.2.1 _ h3) C.2.2.2.2.2.1 hP (C.2.2.2.2.2.2.2.1 _ S) hS q0 q0 t0 t0 ha ha ht ht rfl c1 c2 c3 c4 c5 (fun _ _ => rfl) hf hlo hd (fun H1 locs1 hP1 _ hS1 => k S2 z hz H1 locs1 ls (hw ▸ hP1) hS1 hl2)
theorem g_mmin (C : Cx p s m args meth c cc nL own D ty ad n w) {x y : Int32} {idx : Nat} (hl : Cond.methodLink own idx Lib.Math.min.name ∈ lw_tb) (h1 : Cond.static Lib.Math.min.name ∈ lw_tb) (h2 : Cond.initialized "java/lang/Math" ∈ lw_tb) (h3 : Cond.code Lib.Math.min.name Lib.Math.min.code 2 (some .int) ∈ lw_tb) (hf : 1 ≤ R.frames) (hlo : (st.map fun v => v.category).sum + 13 ≤ R.locals) (hd : decode cc pc = .ok (.invokestatic idx, 3)) (k : GM p l e R s m args below meth c D ad n w nL Qz o S (pc + 3) lv (.int (if y < x then y else x) :: st)) : GM p l e R s m args below meth c D ad n w nL Qz o S pc lv (.int y :: .int x :: st) :=
  fun z hz H locs ls hP hS hl2 => va_mmin C.1 C.2.1 (by rw [C.2.2.1]; exact hl2.1.symm) C.2.2.2.1 (C.2.2.2.2.1 _ hl) (C.2.2.2.2.1 _ h1) (C.2.2.2.2.1 _ h2) (C.2.2.2.2.1 _ h3) hf hlo (Nat.zero_le _) (Nat.zero_le _) hd (k z hz H locs ls hP hS hl2)
theorem g_mmax (C : Cx p s m args meth c cc nL own D ty ad n w) {x y : Int32} {idx : Nat} (hl : Cond.methodLink own idx Lib.Math.max.name ∈ lw_tb) (h1 : Cond.static Lib.Math.max.name ∈ lw_tb) (h2 : Cond.initialized "java/lang/Math" ∈ lw_tb) (h3 : Cond.code Lib.Math.max.name Lib.Math.max.code 2 (some .int) ∈ lw_tb) (hf : 1 ≤ R.frames) (hlo : (st.map fun v => v.category).sum + 13 ≤ R.locals) (hd : decode cc pc = .ok (.invokestatic idx, 3)) (k : GM p l e R s m args below meth c D ad n w nL Qz o S (pc + 3) lv (.int (if x < y then y else x) :: st)) : GM p l e R s m args below meth c D ad n w nL Qz o S pc lv (.int y :: .int x :: st) :=
  fun z hz H locs ls hP hS hl2 => va_mmax C.1 C.2.1 (by rw [C.2.2.1]; exact hl2.1.symm) C.2.2.2.1 (C.2.2.2.2.1 _ hl) (C.2.2.2.2.1 _ h1) (C.2.2.2.2.1 _ h2) (C.2.2.2.2.1 _ h3) hf hlo (Nat.zero_le _) (Nat.zero_le _) hd (k z hz H locs ls hP hS hl2)
theorem g_mabs (C : Cx p s m args meth c cc nL own D ty ad n w) {x : Int32} {idx : Nat} (hl : Cond.methodLink own idx Lib.Math.abs.name ∈ lw_tb) (h1 : Cond.static Lib.Math.abs.name ∈ lw_tb) (h2 : Cond.initialized "java/lang/Math" ∈ lw_tb) (h3 : Cond.code Lib.Math.abs.name Lib.Math.abs.code 1 (some .int) ∈ lw_tb) (hf : 1 ≤ R.frames) (hlo : (st.map fun v => v.category).sum + 13 ≤ R.locals) (hd : decode cc pc = .ok (.invokestatic idx, 3)) (k : GM p l e R s m args below meth c D ad n w nL Qz o S (pc + 3) lv (.int (if 0 ≤ x then x else 0 - x) :: st)) : GM p l e R s m args below meth c D ad n w nL Qz o S pc lv (.int x :: st) :=
  fun z hz H locs ls hP hS hl2 => va_mabs C.1 C.2.1 (by rw [C.2.2.1]; exact hl2.1.symm) C.2.2.2.1 (C.2.2.2.2.1 _ hl) (C.2.2.2.2.1 _ h1) (C.2.2.2.2.1 _ h2) (C.2.2.2.2.1 _ h3) hf hlo (Nat.zero_le _) (Nat.zero_le _) hd (k z hz H locs ls hP hS hl2)
theorem PS.blind {As : List Value} {sz : Nat} : FrameBlind (va_Pc As (PS D w ty S sz)) := fun a U g mk h => by
  obtain ⟨h1, h2, h3, h4, h5⟩ := h
  exact ⟨h1, h2, h3, va_K.moved (u := U) (U := U.calling g mk a) (Vm.Alike.refl _) h4, h5.same rfl⟩
theorem Cx.pre (C : Cx p s m args meth c cc nL own D ty ad n w) {H : Heap} {As : List Value} (hP : va_P D clsX (w S) H) : PreS s H (va_Pc As (PS D w ty S H.size)) As := ⟨PS.blind, fun U hU hW => ⟨rfl, by rw [hU], by rw [hU]; exact hP, va_K.moved hW.alike C.2.2.2.2.2.1, C.2.2.2.2.2.2.1.warm hW⟩⟩
theorem Adr.in1 {H : Heap} {locs : List Loc} (hS : va_S (Adr ad n s.heap.size) s.heap H locs) : ∀ q, q < H.size → Adr ad n H.size q → Adr ad n s.heap.size q := fun q h1 h2 => h2.elim Or.inl (fun h => absurd h (Nat.not_le.mpr h1))
theorem Adr.in2 {H : Heap} {locs : List Loc} (hS : va_S (Adr ad n s.heap.size) s.heap H locs) : ∀ q, Adr ad n H.size q → Adr ad n s.heap.size q := fun q h => h.elim Or.inl (fun h => Or.inr (Nat.le_trans hS.1 h))
theorem g_callVi (C : Cx p s m args meth c cc nL own D ty ad n w) {oc : Option (Int32 × St)} {kk : Int32 → St → Option ζ} {y : MethodName} {bytes : ByteArray} {maxL idx : Nat} {ret : Option FieldType} {rm : Room} {b : Nat} {CC : String} {As rest : List Value} (hl : Cond.methodLink own idx y ∈ lw_tb) (hw : MwV CC y bytes maxL ret As.length) (hct : ∀ z, oc = some z → CtI l y bytes maxL ret rm D w ty ad n (.ref b :: As) S z) (hR : rm.frames + 1 ≤ R.frames ∧ 8 + (maxL + 11) + rm.locals ≤ R.locals) (hrc : rm.cells = 0) (hrs : rm.slots = 0) (q0 : Nat) {ci N : Nat} {T : u_T} {fs : List Value} (he : (w S)[q0]? = some (b, .inr (ci, fs))) (hc : clsX[ci]? = some (CC, T, N)) (hst : st = As.reverse ++ .ref b :: rest) (hcat : (rest.map fun v => v.category).sum ≤ 8) (hd : decode cc pc = .ok (.invokevirtual idx, 3)) (k : ∀ (r : Int32) (u : St), GM p l e R s m args below meth c D ad n w nL Qz (kk r u) u (pc + 3) lv (.int r :: rest)) : GM p l e R s m args below meth c D ad n w nL Qz (bnd oc kk) S pc lv st := by
  intro z hz H locs ls hP hS hl2
  obtain ⟨zc, hzc, hz2⟩ := bnd_ok hz
  subst hst
  refine va_calli (va_runV (As := As) (rest := rest) ⟨C.1, C.2.1, C.2.2.1, C.2.2.2.1, C.2.2.2.2.1⟩ (hct zc hzc H.size) (cwV As.length C.2.2.2.2.1 (hw.good hl) rfl hrc hrs hw.1 hR) ⟨PS.blind, va_recv C.2.2.2.2.2.1 hP hc he, (C.pre (As := .ref b :: As) hP).2⟩ rfl rfl hl2.1 rfl (by show 2 * 0 + _ ≤ 8; omega) hd ⟨Nat.zero_le _, Nat.zero_le _⟩) hS (Adr.in1 hS) (Adr.in2 hS) (fun r u t H1 locs1 ht hvm hp hB hsz hk1 hS1 => ?_)
  obtain ⟨rfl, rfl⟩ := hp
  exact k _ _ z hz2 H1 locs1 ls (by rw [← ht]; exact hB) hS1 hl2
theorem g_callSi (C : Cx p s m args meth c cc nL own D ty ad n w) {oc : Option (Int32 × St)} {kk : Int32 → St → Option ζ} {y : MethodName} {bytes : ByteArray} {maxL idx : Nat} {ret : Option FieldType} {rm : Room} {As rest : List Value} (hl : Cond.methodLink own idx y ∈ lw_tb) (hw : MwS y bytes maxL ret As.length) (hct : ∀ z, oc = some z → CtI l y bytes maxL ret rm D w ty ad n (As) S z) (hR : rm.frames + 1 ≤ R.frames ∧ 8 + (maxL + 11) + rm.locals ≤ R.locals) (hrc : rm.cells = 0) (hrs : rm.slots = 0) (hst : st = As.reverse ++ rest) (hcat : (rest.map fun v => v.category).sum ≤ 8) (hd : decode cc pc = .ok (.invokestatic idx, 3)) (k : ∀ (r : Int32) (u : St), GM p l e R s m args below meth c D ad n w nL Qz (kk r u) u (pc + 3) lv (.int r :: rest)) : GM p l e R s m args below meth c D ad n w nL Qz (bnd oc kk) S pc lv st := by
  intro z hz H locs ls hP hS hl2
  obtain ⟨zc, hzc, hz2⟩ := bnd_ok hz
  subst hst
  refine va_calli (va_runS (As := As) (rest := rest) ⟨C.1, C.2.1, C.2.2.1, C.2.2.2.1, C.2.2.2.2.1⟩ (hct zc hzc H.size) (va_cwS As.length C.2.2.2.2.1 (hw.good hl) rfl hrc hrs hw.1 hR) (C.pre hP) rfl rfl hl2.1 rfl (by show 2 * 0 + _ ≤ 8; omega) hd ⟨Nat.zero_le _, Nat.zero_le _⟩) hS (Adr.in1 hS) (Adr.in2 hS) (fun r u t H1 locs1 ht hvm hp hB hsz hk1 hS1 => ?_)
  obtain ⟨rfl, rfl⟩ := hp
  exact k _ _ z hz2 H1 locs1 ls (by rw [← ht]; exact hB) hS1 hl2
theorem g_callVl (C : Cx p s m args meth c cc nL own D ty ad n w) {oc : Option (Int64 × St)} {kk : Int64 → St → Option ζ} {y : MethodName} {bytes : ByteArray} {maxL idx : Nat} {ret : Option FieldType} {rm : Room} {b : Nat} {CC : String} {As rest : List Value} (hl : Cond.methodLink own idx y ∈ lw_tb) (hw : MwV CC y bytes maxL ret As.length) (hct : ∀ z, oc = some z → CtL l y bytes maxL ret rm D w ty ad n (.ref b :: As) S z) (hR : rm.frames + 1 ≤ R.frames ∧ 8 + (maxL + 11) + rm.locals ≤ R.locals) (hrc : rm.cells = 0) (hrs : rm.slots = 0) (q0 : Nat) {ci N : Nat} {T : u_T} {fs : List Value} (he : (w S)[q0]? = some (b, .inr (ci, fs))) (hc : clsX[ci]? = some (CC, T, N)) (hst : st = As.reverse ++ .ref b :: rest) (hcat : (rest.map fun v => v.category).sum ≤ 8) (hd : decode cc pc = .ok (.invokevirtual idx, 3)) (k : ∀ (r : Int64) (u : St), GM p l e R s m args below meth c D ad n w nL Qz (kk r u) u (pc + 3) lv (.long r :: rest)) : GM p l e R s m args below meth c D ad n w nL Qz (bnd oc kk) S pc lv st := by
  intro z hz H locs ls hP hS hl2
  obtain ⟨zc, hzc, hz2⟩ := bnd_ok hz
  subst hst
  refine va_calll (va_runV (As := As) (rest := rest) ⟨C.1, C.2.1, C.2.2.1, C.2.2.2.1, C.2.2.2.2.1⟩ (hct zc hzc H.size) (cwV As.length C.2.2.2.2.1 (hw.good hl) rfl hrc hrs hw.1 hR) ⟨PS.blind, va_recv C.2.2.2.2.2.1 hP hc he, (C.pre (As := .ref b :: As) hP).2⟩ rfl rfl hl2.1 rfl (by show 2 * 0 + _ ≤ 8; omega) hd ⟨Nat.zero_le _, Nat.zero_le _⟩) hS (Adr.in1 hS) (Adr.in2 hS) (fun r u t H1 locs1 ht hvm hp hB hsz hk1 hS1 => ?_)
  obtain ⟨rfl, rfl⟩ := hp
  exact k _ _ z hz2 H1 locs1 ls (by rw [← ht]; exact hB) hS1 hl2
theorem g_callSl (C : Cx p s m args meth c cc nL own D ty ad n w) {oc : Option (Int64 × St)} {kk : Int64 → St → Option ζ} {y : MethodName} {bytes : ByteArray} {maxL idx : Nat} {ret : Option FieldType} {rm : Room} {As rest : List Value} (hl : Cond.methodLink own idx y ∈ lw_tb) (hw : MwS y bytes maxL ret As.length) (hct : ∀ z, oc = some z → CtL l y bytes maxL ret rm D w ty ad n (As) S z) (hR : rm.frames + 1 ≤ R.frames ∧ 8 + (maxL + 11) + rm.locals ≤ R.locals) (hrc : rm.cells = 0) (hrs : rm.slots = 0) (hst : st = As.reverse ++ rest) (hcat : (rest.map fun v => v.category).sum ≤ 8) (hd : decode cc pc = .ok (.invokestatic idx, 3)) (k : ∀ (r : Int64) (u : St), GM p l e R s m args below meth c D ad n w nL Qz (kk r u) u (pc + 3) lv (.long r :: rest)) : GM p l e R s m args below meth c D ad n w nL Qz (bnd oc kk) S pc lv st := by
  intro z hz H locs ls hP hS hl2
  obtain ⟨zc, hzc, hz2⟩ := bnd_ok hz
  subst hst
  refine va_calll (va_runS (As := As) (rest := rest) ⟨C.1, C.2.1, C.2.2.1, C.2.2.2.1, C.2.2.2.2.1⟩ (hct zc hzc H.size) (va_cwS As.length C.2.2.2.2.1 (hw.good hl) rfl hrc hrs hw.1 hR) (C.pre hP) rfl rfl hl2.1 rfl (by show 2 * 0 + _ ≤ 8; omega) hd ⟨Nat.zero_le _, Nat.zero_le _⟩) hS (Adr.in1 hS) (Adr.in2 hS) (fun r u t H1 locs1 ht hvm hp hB hsz hk1 hS1 => ?_)
  obtain ⟨rfl, rfl⟩ := hp
  exact k _ _ z hz2 H1 locs1 ls (by rw [← ht]; exact hB) hS1 hl2
theorem g_callVv (C : Cx p s m args meth c cc nL own D ty ad n w) {oc : Option (St)} {kk : St → Option ζ} {y : MethodName} {bytes : ByteArray} {maxL idx : Nat} {ret : Option FieldType} {rm : Room} {b : Nat} {CC : String} {As rest : List Value} (hl : Cond.methodLink own idx y ∈ lw_tb) (hw : MwV CC y bytes maxL ret As.length) (hct : ∀ z, oc = some z → CtV l y bytes maxL ret rm D w ty ad n (.ref b :: As) S z) (hR : rm.frames + 1 ≤ R.frames ∧ 8 + (maxL + 11) + rm.locals ≤ R.locals) (hrc : rm.cells = 0) (hrs : rm.slots = 0) (q0 : Nat) {ci N : Nat} {T : u_T} {fs : List Value} (he : (w S)[q0]? = some (b, .inr (ci, fs))) (hc : clsX[ci]? = some (CC, T, N)) (hst : st = As.reverse ++ .ref b :: rest) (hcat : (rest.map fun v => v.category).sum ≤ 8) (hd : decode cc pc = .ok (.invokevirtual idx, 3)) (k : ∀ (u : St), GM p l e R s m args below meth c D ad n w nL Qz (kk u) u (pc + 3) lv (rest)) : GM p l e R s m args below meth c D ad n w nL Qz (bndV oc kk) S pc lv st := by
  intro z hz H locs ls hP hS hl2
  obtain ⟨zc, hzc, hz2⟩ := bndV_ok hz
  subst hst
  refine va_callv (va_runV (As := As) (rest := rest) ⟨C.1, C.2.1, C.2.2.1, C.2.2.2.1, C.2.2.2.2.1⟩ (hct zc hzc H.size) (cwV As.length C.2.2.2.2.1 (hw.good hl) rfl hrc hrs hw.1 hR) ⟨PS.blind, va_recv C.2.2.2.2.2.1 hP hc he, (C.pre (As := .ref b :: As) hP).2⟩ rfl rfl hl2.1 rfl (by show 2 * 0 + _ ≤ 8; omega) hd ⟨Nat.zero_le _, Nat.zero_le _⟩) hS (Adr.in1 hS) (Adr.in2 hS) (fun u t H1 locs1 ht hvm hp hB hsz hk1 hS1 => ?_)
  subst hp
  exact k _ z hz2 H1 locs1 ls (by rw [← ht]; exact hB) hS1 hl2
theorem g_callSv (C : Cx p s m args meth c cc nL own D ty ad n w) {oc : Option (St)} {kk : St → Option ζ} {y : MethodName} {bytes : ByteArray} {maxL idx : Nat} {ret : Option FieldType} {rm : Room} {As rest : List Value} (hl : Cond.methodLink own idx y ∈ lw_tb) (hw : MwS y bytes maxL ret As.length) (hct : ∀ z, oc = some z → CtV l y bytes maxL ret rm D w ty ad n (As) S z) (hR : rm.frames + 1 ≤ R.frames ∧ 8 + (maxL + 11) + rm.locals ≤ R.locals) (hrc : rm.cells = 0) (hrs : rm.slots = 0) (hst : st = As.reverse ++ rest) (hcat : (rest.map fun v => v.category).sum ≤ 8) (hd : decode cc pc = .ok (.invokestatic idx, 3)) (k : ∀ (u : St), GM p l e R s m args below meth c D ad n w nL Qz (kk u) u (pc + 3) lv (rest)) : GM p l e R s m args below meth c D ad n w nL Qz (bndV oc kk) S pc lv st := by
  intro z hz H locs ls hP hS hl2
  obtain ⟨zc, hzc, hz2⟩ := bndV_ok hz
  subst hst
  refine va_callv (va_runS (As := As) (rest := rest) ⟨C.1, C.2.1, C.2.2.1, C.2.2.2.1, C.2.2.2.2.1⟩ (hct zc hzc H.size) (va_cwS As.length C.2.2.2.2.1 (hw.good hl) rfl hrc hrs hw.1 hR) (C.pre hP) rfl rfl hl2.1 rfl (by show 2 * 0 + _ ≤ 8; omega) hd ⟨Nat.zero_le _, Nat.zero_le _⟩) hS (Adr.in1 hS) (Adr.in2 hS) (fun u t H1 locs1 ht hvm hp hB hsz hk1 hS1 => ?_)
  subst hp
  exact k _ z hz2 H1 locs1 ls (by rw [← ht]; exact hB) hS1 hl2
theorem g_callVr (C : Cx p s m args meth c cc nL own D ty ad n w) {oc : Option St} {kk : St → Option ζ} {y : MethodName} {bytes : ByteArray} {maxL idx pl : Nat} {ret : Option FieldType} {rm : Room} {b : Nat} {CC : String} {As rest : List Value} (hl : Cond.methodLink own idx y ∈ lw_tb) (hw : MwV CC y bytes maxL ret As.length) (hct : ∀ z, oc = some z → CtR l y bytes maxL ret rm D w ty ad n (.ref b :: As) S pl z) (hR : rm.frames + 1 ≤ R.frames ∧ 8 + (maxL + 11) + rm.locals ≤ R.locals) (hrc : rm.cells = 0) (hrs : rm.slots = 0) (q0 : Nat) {ci N : Nat} {T : u_T} {fs : List Value} (he : (w S)[q0]? = some (b, .inr (ci, fs))) (hc : clsX[ci]? = some (CC, T, N)) (hst : st = As.reverse ++ .ref b :: rest) (hcat : (rest.map fun v => v.category).sum ≤ 8) (hd : decode cc pc = .ok (.invokevirtual idx, 3)) (k : ∀ (u : St), GM p l e R s m args below meth c D ad n w nL Qz (kk u) u (pc + 3) lv (.ref (ad pl) :: rest)) : GM p l e R s m args below meth c D ad n w nL Qz (bndV oc kk) S pc lv st := by
  intro z hz H locs ls hP hS hl2
  obtain ⟨zc, hzc, hz2⟩ := bndV_ok hz
  subst hst
  refine va_callr (va_runV (As := As) (rest := rest) ⟨C.1, C.2.1, C.2.2.1, C.2.2.2.1, C.2.2.2.2.1⟩ (hct zc hzc H.size) (cwV As.length C.2.2.2.2.1 (hw.good hl) rfl hrc hrs hw.1 hR) ⟨PS.blind, va_recv C.2.2.2.2.2.1 hP hc he, (C.pre (As := .ref b :: As) hP).2⟩ rfl rfl hl2.1 rfl (by show 2 * 0 + _ ≤ 8; omega) hd ⟨Nat.zero_le _, Nat.zero_le _⟩) hS (Adr.in1 hS) (Adr.in2 hS) (fun u ra t H1 locs1 ht hvm hp hB hsz hk1 hS1 => ?_)
  subst hp
  obtain ⟨rfl, hB⟩ := hB
  exact k _ z hz2 H1 locs1 ls (by rw [← ht]; exact hB) hS1 hl2
theorem g_aret (C : Cx p s m args meth c cc nL own D ty ad n w) {rt : FieldType} (hr : meth.sig.returnType = some rt) (hrt : (∃ n, rt = .object n) ∨ ∃ t, rt = .array t) {pl : Nat} (hd : decode cc pc = .ok (.areturn, 1)) : GM p l e R s m args below meth c D ad n w nL (QR D w ad n pl args s below) (some S) S pc lv [.ref (ad pl)] := by
  intro z hz H locs ls hP hS hl
  cases hz
  exact W.aret (v := .ref (ad pl)) C.1 C.2.1 hr hrt (Or.inr ⟨_, rfl⟩) (fun t ht hW => ⟨⟨S, ad pl, rfl, rfl, rfl, by show va_P _ _ _ _; rw [ht]; exact hP⟩, hS.F ht⟩) hS.2.2 hd (hlocks := C.2.2.2.2.2.2.2.2)
theorem CtI.of {y : MethodName} {bytes : ByteArray} {maxL : Nat} {ret : Option FieldType} {rm : Room} {As : List Value} {o : Option (Int32 × St)} {z : Int32 × St} (hf : o = some z) (hy : plainName y.cls = true) (hlen : (lg_sl As).length ≤ maxL) (hD : ∀ sz S, va_D (Adr ad n sz) (w S)) (body : ∀ (p : Program) (e : Env) (s : State) (m : MethodId) (args : Array Value) (below : List Frame) (meth : Method) (c : Code), Cx p s m args meth c bytes maxL y.cls D ty ad n w → meth.sig.returnType = ret → GM p l e rm s m args below meth c D ad n w maxL (QI D w ad n args s below) o S 0 (lv_args 0 As) []) : CtI l y bytes maxL ret rm D w ty ad n As S z := by
  intro sz
  refine Met.ofW (cc := bytes) (maxL := maxL) (ret := ret) hy rfl ?_
  intro p e s m args below meth c s₁ B hml hv
  obtain ⟨rfl, hsz, hP, hK, hN⟩ := hv
  subst hsz
  have C : Cx p s m As.toArray meth c bytes maxL y.cls D ty ad n w := ⟨B.exec, B.bytes, hml, findClass_of_methodNamed B.named, fun w hw => atoms_spec (ws := Cond.code y bytes maxL ret :: lw_tb) B.pre w (List.mem_cons_of_mem _ hw), hK, hN, hD, B.notSynchronized⟩
  have hl := lv_entry As (n := maxL) hlen
  rw [lg_entry_eq]
  exact body p e s m _ below meth c C B.returns z hf _ _ _ hP va_S.rf hl
theorem CtL.of {y : MethodName} {bytes : ByteArray} {maxL : Nat} {ret : Option FieldType} {rm : Room} {As : List Value} {o : Option (Int64 × St)} {z : Int64 × St} (hf : o = some z) (hy : plainName y.cls = true) (hlen : (lg_sl As).length ≤ maxL) (hD : ∀ sz S, va_D (Adr ad n sz) (w S)) (body : ∀ (p : Program) (e : Env) (s : State) (m : MethodId) (args : Array Value) (below : List Frame) (meth : Method) (c : Code), Cx p s m args meth c bytes maxL y.cls D ty ad n w → meth.sig.returnType = ret → GM p l e rm s m args below meth c D ad n w maxL (QL D w ad n args s below) o S 0 (lv_args 0 As) []) : CtL l y bytes maxL ret rm D w ty ad n As S z := by
  intro sz
  refine Met.ofW (cc := bytes) (maxL := maxL) (ret := ret) hy rfl ?_
  intro p e s m args below meth c s₁ B hml hv
  obtain ⟨rfl, hsz, hP, hK, hN⟩ := hv
  subst hsz
  have C : Cx p s m As.toArray meth c bytes maxL y.cls D ty ad n w := ⟨B.exec, B.bytes, hml, findClass_of_methodNamed B.named, fun w hw => atoms_spec (ws := Cond.code y bytes maxL ret :: lw_tb) B.pre w (List.mem_cons_of_mem _ hw), hK, hN, hD, B.notSynchronized⟩
  have hl := lv_entry As (n := maxL) hlen
  rw [lg_entry_eq]
  exact body p e s m _ below meth c C B.returns z hf _ _ _ hP va_S.rf hl
theorem CtV.of {y : MethodName} {bytes : ByteArray} {maxL : Nat} {ret : Option FieldType} {rm : Room} {As : List Value} {o : Option (St)} {z : St} (hf : o = some z) (hy : plainName y.cls = true) (hlen : (lg_sl As).length ≤ maxL) (hD : ∀ sz S, va_D (Adr ad n sz) (w S)) (body : ∀ (p : Program) (e : Env) (s : State) (m : MethodId) (args : Array Value) (below : List Frame) (meth : Method) (c : Code), Cx p s m args meth c bytes maxL y.cls D ty ad n w → meth.sig.returnType = ret → GM p l e rm s m args below meth c D ad n w maxL (QV D w ad n args s below) o S 0 (lv_args 0 As) []) : CtV l y bytes maxL ret rm D w ty ad n As S z := by
  intro sz
  refine Met.ofW (cc := bytes) (maxL := maxL) (ret := ret) hy rfl ?_
  intro p e s m args below meth c s₁ B hml hv
  obtain ⟨rfl, hsz, hP, hK, hN⟩ := hv
  subst hsz
  have C : Cx p s m As.toArray meth c bytes maxL y.cls D ty ad n w := ⟨B.exec, B.bytes, hml, findClass_of_methodNamed B.named, fun w hw => atoms_spec (ws := Cond.code y bytes maxL ret :: lw_tb) B.pre w (List.mem_cons_of_mem _ hw), hK, hN, hD, B.notSynchronized⟩
  have hl := lv_entry As (n := maxL) hlen
  rw [lg_entry_eq]
  exact body p e s m _ below meth c C B.returns z hf _ _ _ hP va_S.rf hl
theorem CtR.of {y : MethodName} {bytes : ByteArray} {maxL : Nat} {ret : Option FieldType} {rm : Room} {As : List Value} {o : Option (St)} {z : St} {pl : Nat} (hf : o = some z) (hy : plainName y.cls = true) (hlen : (lg_sl As).length ≤ maxL) (hD : ∀ sz S, va_D (Adr ad n sz) (w S)) (body : ∀ (p : Program) (e : Env) (s : State) (m : MethodId) (args : Array Value) (below : List Frame) (meth : Method) (c : Code), Cx p s m args meth c bytes maxL y.cls D ty ad n w → meth.sig.returnType = ret → GM p l e rm s m args below meth c D ad n w maxL (QR D w ad n pl args s below) o S 0 (lv_args 0 As) []) : CtR l y bytes maxL ret rm D w ty ad n As S pl z := by
  intro sz
  refine Met.ofW (cc := bytes) (maxL := maxL) (ret := ret) hy rfl ?_
  intro p e s m args below meth c s₁ B hml hv
  obtain ⟨rfl, hsz, hP, hK, hN⟩ := hv
  subst hsz
  have C : Cx p s m As.toArray meth c bytes maxL y.cls D ty ad n w := ⟨B.exec, B.bytes, hml, findClass_of_methodNamed B.named, fun w hw => atoms_spec (ws := Cond.code y bytes maxL ret :: lw_tb) B.pre w (List.mem_cons_of_mem _ hw), hK, hN, hD, B.notSynchronized⟩
  have hl := lv_entry As (n := maxL) hlen
  rw [lg_entry_eq]
  exact body p e s m _ below meth c C B.returns z hf _ _ _ hP va_S.rf hl
end GMR
