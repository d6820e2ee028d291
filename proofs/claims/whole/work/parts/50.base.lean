/-! PURE: numbers of the machine as integers, loops of mirrors, what a state holds -/
def iI (z : Int) : Int32 := Int32.ofInt z
theorem iI_add (a b : Int) : iI a + iI b = iI (a + b) := (Int32.ofInt_add a b).symm
theorem iI_sub (a b : Int) : iI a - iI b = iI (a - b) := (Int32.ofInt_sub a b).symm
theorem iI_mul (a b : Int) : iI a * iI b = iI (a * b) := (Int32.ofInt_mul a b).symm
theorem iI_neg (a : Int) : -iI a = iI (-a) := (Int32.ofInt_neg a).symm
theorem iI_lit (n : Nat) : (OfNat.ofNat n : Int32) = iI (OfNat.ofNat n) := (Int32.ofInt_eq_ofNat (n := n)).symm
theorem iI_0 : (0 : Int32) = iI 0 := rfl
theorem iI_1 : (1 : Int32) = iI 1 := rfl
theorem iI_m1 : (-1 : Int32) = iI (-1) := rfl
theorem iI_toInt {a : Int} (h1 : -2147483648 ≤ a) (h2 : a < 2147483648) : (iI a).toInt = a := Int32.toInt_ofInt_of_le h1 h2
theorem iI_lt {a b : Int} (h1 : -2147483648 ≤ a) (h2 : a < 2147483648) (h3 : -2147483648 ≤ b) (h4 : b < 2147483648) : iI a < iI b ↔ a < b := by
  rw [Int32.lt_iff_toInt_lt, iI_toInt h1 h2, iI_toInt h3 h4]
theorem iI_le {a b : Int} (h1 : -2147483648 ≤ a) (h2 : a < 2147483648) (h3 : -2147483648 ≤ b) (h4 : b < 2147483648) : iI a ≤ iI b ↔ a ≤ b := by
  rw [Int32.le_iff_toInt_le, iI_toInt h1 h2, iI_toInt h3 h4]
theorem iI_eq {a b : Int} (h1 : -2147483648 ≤ a) (h2 : a < 2147483648) (h3 : -2147483648 ≤ b) (h4 : b < 2147483648) : iI a = iI b ↔ a = b := by
  rw [← Int32.toInt_inj, iI_toInt h1 h2, iI_toInt h3 h4]
theorem iI_of (x : Int32) : ∃ a : Int, x = iI a ∧ -2147483648 ≤ a ∧ a < 2147483648 := ⟨x.toInt, (Int32.ofInt_toInt x).symm, by have := x.le_toInt; simpa using this, by have := x.toInt_lt; simpa using this⟩
theorem ix_iI {a : Int} (h1 : 0 ≤ a) (h2 : a < 2147483648) : ix (iI a) = a.toNat := Int32.toNatClampNeg_ofInt_of_le (by omega) h2
theorem ix_n {c : Nat} (h : c < 2147483648) : ix (iI (c : Int)) = c := by rw [ix_iI (by omega) (by omega)]; omega
theorem lm2147483648 : (-2147483648 : Int32) = iI (-2147483648) := rfl
theorem lm1000002 : (-1000002 : Int32) = iI (-1000002) := rfl
theorem lm10 : (-10 : Int32) = iI (-10) := rfl
theorem lm4 : (-4 : Int32) = iI (-4) := rfl
theorem lm3 : (-3 : Int32) = iI (-3) := rfl
theorem lm2 : (-2 : Int32) = iI (-2) := rfl
theorem lm1 : (-1 : Int32) = iI (-1) := rfl
theorem l0 : (0 : Int32) = iI (0) := rfl
theorem l1 : (1 : Int32) = iI (1) := rfl
theorem l2 : (2 : Int32) = iI (2) := rfl
theorem l3 : (3 : Int32) = iI (3) := rfl
theorem l4 : (4 : Int32) = iI (4) := rfl
theorem l5 : (5 : Int32) = iI (5) := rfl
theorem l6 : (6 : Int32) = iI (6) := rfl
theorem l7 : (7 : Int32) = iI (7) := rfl
theorem l8 : (8 : Int32) = iI (8) := rfl
theorem l9 : (9 : Int32) = iI (9) := rfl
theorem l10 : (10 : Int32) = iI (10) := rfl
theorem l11 : (11 : Int32) = iI (11) := rfl
theorem l12 : (12 : Int32) = iI (12) := rfl
theorem l13 : (13 : Int32) = iI (13) := rfl
theorem l14 : (14 : Int32) = iI (14) := rfl
theorem l15 : (15 : Int32) = iI (15) := rfl
theorem l16 : (16 : Int32) = iI (16) := rfl
theorem l17 : (17 : Int32) = iI (17) := rfl
theorem l18 : (18 : Int32) = iI (18) := rfl
theorem l19 : (19 : Int32) = iI (19) := rfl
theorem l20 : (20 : Int32) = iI (20) := rfl
theorem l21 : (21 : Int32) = iI (21) := rfl
theorem l22 : (22 : Int32) = iI (22) := rfl
theorem l23 : (23 : Int32) = iI (23) := rfl
theorem l24 : (24 : Int32) = iI (24) := rfl
theorem l25 : (25 : Int32) = iI (25) := rfl
theorem l26 : (26 : Int32) = iI (26) := rfl
theorem l27 : (27 : Int32) = iI (27) := rfl
theorem l28 : (28 : Int32) = iI (28) := rfl
theorem l29 : (29 : Int32) = iI (29) := rfl
theorem l30 : (30 : Int32) = iI (30) := rfl
theorem l31 : (31 : Int32) = iI (31) := rfl
theorem l48 : (48 : Int32) = iI (48) := rfl
theorem l57 : (57 : Int32) = iI (57) := rfl
theorem l59 : (59 : Int32) = iI (59) := rfl
theorem l63 : (63 : Int32) = iI (63) := rfl
theorem l99 : (99 : Int32) = iI (99) := rfl
theorem l100 : (100 : Int32) = iI (100) := rfl
theorem l125 : (125 : Int32) = iI (125) := rfl
theorem l255 : (255 : Int32) = iI (255) := rfl
theorem l256 : (256 : Int32) = iI (256) := rfl
theorem l500 : (500 : Int32) = iI (500) := rfl
theorem l900 : (900 : Int32) = iI (900) := rfl
theorem l9999 : (9999 : Int32) = iI (9999) := rfl
theorem l99999 : (99999 : Int32) = iI (99999) := rfl
theorem l100000 : (100000 : Int32) = iI (100000) := rfl
theorem l252645135 : (252645135 : Int32) = iI (252645135) := rfl
theorem l858993459 : (858993459 : Int32) = iI (858993459) := rfl
theorem l1431655765 : (1431655765 : Int32) = iI (1431655765) := rfl
section
variable {α ζ : Type} {x y : α}
theorem lt_t {a b : Int} (h : -2147483648 ≤ a ∧ a < b ∧ b < 2147483648) : (if iI a < iI b then x else y) = x := if_pos ((iI_lt (by omega) (by omega) (by omega) (by omega)).mpr h.2.1)
theorem lt_f {a b : Int} (h : -2147483648 ≤ b ∧ b ≤ a ∧ a < 2147483648) : (if iI a < iI b then x else y) = y := if_neg (fun g => by have := (iI_lt (by omega) (by omega) (by omega) (by omega)).mp g; omega)
theorem eq_t {a b : Int} (h : a = b) : (if iI a = iI b then x else y) = x := if_pos (by rw [h])
theorem eq_f {a b : Int} (h : a ≠ b ∧ -2147483648 ≤ a ∧ a < 2147483648 ∧ -2147483648 ≤ b ∧ b < 2147483648) : (if iI a = iI b then x else y) = y := if_neg (fun g => h.1 ((iI_eq h.2.1 h.2.2.1 h.2.2.2.1 h.2.2.2.2).mp g))
theorem eq0_t {a : Int} (h : a = 0) : (if iI a = 0 then x else y) = x := if_pos (by rw [h]; rfl)
theorem eq0_f {a : Int} (h : a ≠ 0 ∧ -2147483648 ≤ a ∧ a < 2147483648) : (if iI a = 0 then x else y) = y := eq_f (b := 0) (by omega)
theorem lt0_t {a : Int} (h : -2147483648 ≤ a ∧ a < 0) : (if iI a < 0 then x else y) = x := lt_t (b := 0) (by omega)
theorem lt0_f {a : Int} (h : 0 ≤ a ∧ a < 2147483648) : (if iI a < 0 then x else y) = y := lt_f (b := 0) (by omega)
theorem gt0_t {a : Int} (h : 0 < a ∧ a < 2147483648) : (if 0 < iI a then x else y) = x := lt_t (a := 0) (by omega)
theorem gt0_f {a : Int} (h : -2147483648 ≤ a ∧ a ≤ 0) : (if 0 < iI a then x else y) = y := lt_f (a := 0) (by omega)
theorem if_lt {a b : Int} (h : -2147483648 ≤ a ∧ a < 2147483648 ∧ -2147483648 ≤ b ∧ b < 2147483648) : (if iI a < iI b then x else y) = if a < b then x else y := by
  by_cases g : a < b
  · rw [if_pos g, lt_t (by omega)]
  · rw [if_neg g, lt_f (by omega)]
theorem if_eq {a b : Int} (h : -2147483648 ≤ a ∧ a < 2147483648 ∧ -2147483648 ≤ b ∧ b < 2147483648) : (if iI a = iI b then x else y) = if a = b then x else y := by
  by_cases g : a = b
  · rw [if_pos g, eq_t g]
  · rw [if_neg g, eq_f ⟨g, h⟩]
theorem chk_t {o : Option ζ} {a : Int} {n : Nat} (h : 0 ≤ a ∧ a < n ∧ n < 2147483648) : chk (iI a) n o = o := by
  unfold chk
  rw [if_neg]
  intro g
  rcases g with g | g
  · have := (iI_lt (a := a) (b := 0) (by omega) (by omega) (by omega) (by omega)).mp g
    omega
  · have e : (iI a).toNatClampNeg = a.toNat := ix_iI (by omega) (by omega)
    rw [e] at g
    omega
theorem bnd_some {α : Type} {r : α} {S : St} {k : α → St → Option ζ} : bnd (some (r, S)) k = k r S := rfl
theorem bndV_some {S : St} {k : St → Option ζ} : bndV (some S) k = k S := rfl
theorem nm_eq {α : Type} {r : α} {k : α → Option ζ} : nm r k = k r := rfl
theorem zchk_t {x : Int32} {o : Option ζ} (h : x = 0 ∨ x = 1) : zchk x o = o := if_pos h
theorem dchk_t {x : Int32} {o : Option ζ} (h : x ≠ 0) : dchk x o = o := if_neg h
theorem dchkL_t {x : Int64} {o : Option ζ} (h : x ≠ 0) : dchkL x o = o := if_neg h
end
theorem b01 (b : Bool) : (if b then (1 : Int32) else 0) = 0 ∨ (if b then (1 : Int32) else 0) = 1 := by cases b <;> simp
theorem b_if0 {α : Type} {x y : α} (b : Bool) : (if (if b then (1 : Int32) else 0) = 0 then x else y) = if b then y else x := by cases b <;> simp
theorem b_if1 {α : Type} {x y : α} (b : Bool) : (if (if b then (1 : Int32) else 0) = 1 then x else y) = if b then x else y := by cases b <;> simp
/- what a state holds behind a change -/
theorem gI_sI (S : St) (k j : Nat) (x : Int32) (a b : Nat) : gI (sI S k j x) a b = if a = k then (if b = j then x else gI S a b) else gI S a b := by
  unfold gI sI
  by_cases h : a = k
  · simp only [h, if_true, upd]
  · simp only [h, if_false]
theorem gI_sI_k {S : St} {k j : Nat} {x : Int32} {b : Nat} : gI (sI S k j x) k b = if b = j then x else gI S k b := by rw [gI_sI, if_pos rfl]
theorem gI_sI_n {S : St} {k j : Nat} {x : Int32} {a b : Nat} (h : a ≠ k) : gI (sI S k j x) a b = gI S a b := by rw [gI_sI, if_neg h]
theorem gL_sI {S : St} {k j : Nat} {x : Int32} {a b : Nat} : gL (sI S k j x) a b = gL S a b := rfl
theorem gI_sL {S : St} {k j : Nat} {x : Int64} {a b : Nat} : gI (sL S k j x) a b = gI S a b := rfl
theorem gL_sL (S : St) (k j : Nat) (x : Int64) (a b : Nat) : gL (sL S k j x) a b = if a = k then (if b = j then x else gL S a b) else gL S a b := by
  unfold gL sL
  by_cases h : a = k
  · simp only [h, if_true, vp_updL]
  · simp only [h, if_false]
theorem gI_sC (S : St) (k : Nat) (f : Nat → Int32) (a b : Nat) : gI (sC S k f) a b = if a = k then f b else gI S a b := by
  unfold gI sC
  by_cases h : a = k
  · simp only [h, if_true]
  · simp only [h, if_false]
theorem it0_inv {ζ : Type} {F : (St → Option ζ) → St → Option ζ} (Inv : Nat → St → Prop) (b : Nat) (P : Option ζ → Prop) (hs : ∀ i (S : St), i < b → Inv i S → ∀ rec, ∃ (S2 : St), Inv (i + 1) S2 ∧ F rec S = rec S2) (he : ∀ (S : St), Inv b S → ∀ rec, P (F rec S)) : ∀ N i S, i ≤ b → b - i < N → Inv i S → P (it0 F N S) := by
  intro N
  induction N with
  | zero => intros; omega
  | succ N ih =>
    intro i S h1 h2 h3
    show P (F (it0 F N) S)
    by_cases hi : i < b
    · obtain ⟨S2, h4, h5⟩ := hs i S hi h3 _
      rw [h5]
      exact ih (i + 1) S2 hi (by omega) h4
    · have e : i = b := by omega
      subst e
      exact he S h3 _
theorem it1_inv {α0 : Type} {ζ : Type} {F : (α0 → St → Option ζ) → α0 → St → Option ζ} (Inv : Nat → α0 → St → Prop) (b : Nat) (P : Option ζ → Prop) (hs : ∀ i (x0 : α0) (S : St), i < b → Inv i x0 S → ∀ rec, ∃ (y0 : α0) (S2 : St), Inv (i + 1) y0 S2 ∧ F rec x0 S = rec y0 S2) (he : ∀ (x0 : α0) (S : St), Inv b x0 S → ∀ rec, P (F rec x0 S)) : ∀ N i x0 S, i ≤ b → b - i < N → Inv i x0 S → P (it1 F N x0 S) := by
  intro N
  induction N with
  | zero => intros; omega
  | succ N ih =>
    intro i x0 S h1 h2 h3
    show P (F (it1 F N) x0 S)
    by_cases hi : i < b
    · obtain ⟨y0, S2, h4, h5⟩ := hs i x0 S hi h3 _
      rw [h5]
      exact ih (i + 1) y0 S2 hi (by omega) h4
    · have e : i = b := by omega
      subst e
      exact he x0 S h3 _
theorem it2_inv {α0 α1 : Type} {ζ : Type} {F : (α0 → α1 → St → Option ζ) → α0 → α1 → St → Option ζ} (Inv : Nat → α0 → α1 → St → Prop) (b : Nat) (P : Option ζ → Prop) (hs : ∀ i (x0 : α0) (x1 : α1) (S : St), i < b → Inv i x0 x1 S → ∀ rec, ∃ (y0 : α0) (y1 : α1) (S2 : St), Inv (i + 1) y0 y1 S2 ∧ F rec x0 x1 S = rec y0 y1 S2) (he : ∀ (x0 : α0) (x1 : α1) (S : St), Inv b x0 x1 S → ∀ rec, P (F rec x0 x1 S)) : ∀ N i x0 x1 S, i ≤ b → b - i < N → Inv i x0 x1 S → P (it2 F N x0 x1 S) := by
  intro N
  induction N with
  | zero => intros; omega
  | succ N ih =>
    intro i x0 x1 S h1 h2 h3
    show P (F (it2 F N) x0 x1 S)
    by_cases hi : i < b
    · obtain ⟨y0, y1, S2, h4, h5⟩ := hs i x0 x1 S hi h3 _
      rw [h5]
      exact ih (i + 1) y0 y1 S2 hi (by omega) h4
    · have e : i = b := by omega
      subst e
      exact he x0 x1 S h3 _
theorem it3_inv {α0 α1 α2 : Type} {ζ : Type} {F : (α0 → α1 → α2 → St → Option ζ) → α0 → α1 → α2 → St → Option ζ} (Inv : Nat → α0 → α1 → α2 → St → Prop) (b : Nat) (P : Option ζ → Prop) (hs : ∀ i (x0 : α0) (x1 : α1) (x2 : α2) (S : St), i < b → Inv i x0 x1 x2 S → ∀ rec, ∃ (y0 : α0) (y1 : α1) (y2 : α2) (S2 : St), Inv (i + 1) y0 y1 y2 S2 ∧ F rec x0 x1 x2 S = rec y0 y1 y2 S2) (he : ∀ (x0 : α0) (x1 : α1) (x2 : α2) (S : St), Inv b x0 x1 x2 S → ∀ rec, P (F rec x0 x1 x2 S)) : ∀ N i x0 x1 x2 S, i ≤ b → b - i < N → Inv i x0 x1 x2 S → P (it3 F N x0 x1 x2 S) := by
  intro N
  induction N with
  | zero => intros; omega
  | succ N ih =>
    intro i x0 x1 x2 S h1 h2 h3
    show P (F (it3 F N) x0 x1 x2 S)
    by_cases hi : i < b
    · obtain ⟨y0, y1, y2, S2, h4, h5⟩ := hs i x0 x1 x2 S hi h3 _
      rw [h5]
      exact ih (i + 1) y0 y1 y2 S2 hi (by omega) h4
    · have e : i = b := by omega
      subst e
      exact he x0 x1 x2 S h3 _
theorem it4_inv {α0 α1 α2 α3 : Type} {ζ : Type} {F : (α0 → α1 → α2 → α3 → St → Option ζ) → α0 → α1 → α2 → α3 → St → Option ζ} (Inv : Nat → α0 → α1 → α2 → α3 → St → Prop) (b : Nat) (P : Option ζ → Prop) (hs : ∀ i (x0 : α0) (x1 : α1) (x2 : α2) (x3 : α3) (S : St), i < b → Inv i x0 x1 x2 x3 S → ∀ rec, ∃ (y0 : α0) (y1 : α1) (y2 : α2) (y3 : α3) (S2 : St), Inv (i + 1) y0 y1 y2 y3 S2 ∧ F rec x0 x1 x2 x3 S = rec y0 y1 y2 y3 S2) (he : ∀ (x0 : α0) (x1 : α1) (x2 : α2) (x3 : α3) (S : St), Inv b x0 x1 x2 x3 S → ∀ rec, P (F rec x0 x1 x2 x3 S)) : ∀ N i x0 x1 x2 x3 S, i ≤ b → b - i < N → Inv i x0 x1 x2 x3 S → P (it4 F N x0 x1 x2 x3 S) := by
  intro N
  induction N with
  | zero => intros; omega
  | succ N ih =>
    intro i x0 x1 x2 x3 S h1 h2 h3
    show P (F (it4 F N) x0 x1 x2 x3 S)
    by_cases hi : i < b
    · obtain ⟨y0, y1, y2, y3, S2, h4, h5⟩ := hs i x0 x1 x2 x3 S hi h3 _
      rw [h5]
      exact ih (i + 1) y0 y1 y2 y3 S2 hi (by omega) h4
    · have e : i = b := by omega
      subst e
      exact he x0 x1 x2 x3 S h3 _
theorem it5_inv {α0 α1 α2 α3 α4 : Type} {ζ : Type} {F : (α0 → α1 → α2 → α3 → α4 → St → Option ζ) → α0 → α1 → α2 → α3 → α4 → St → Option ζ} (Inv : Nat → α0 → α1 → α2 → α3 → α4 → St → Prop) (b : Nat) (P : Option ζ → Prop) (hs : ∀ i (x0 : α0) (x1 : α1) (x2 : α2) (x3 : α3) (x4 : α4) (S : St), i < b → Inv i x0 x1 x2 x3 x4 S → ∀ rec, ∃ (y0 : α0) (y1 : α1) (y2 : α2) (y3 : α3) (y4 : α4) (S2 : St), Inv (i + 1) y0 y1 y2 y3 y4 S2 ∧ F rec x0 x1 x2 x3 x4 S = rec y0 y1 y2 y3 y4 S2) (he : ∀ (x0 : α0) (x1 : α1) (x2 : α2) (x3 : α3) (x4 : α4) (S : St), Inv b x0 x1 x2 x3 x4 S → ∀ rec, P (F rec x0 x1 x2 x3 x4 S)) : ∀ N i x0 x1 x2 x3 x4 S, i ≤ b → b - i < N → Inv i x0 x1 x2 x3 x4 S → P (it5 F N x0 x1 x2 x3 x4 S) := by
  intro N
  induction N with
  | zero => intros; omega
  | succ N ih =>
    intro i x0 x1 x2 x3 x4 S h1 h2 h3
    show P (F (it5 F N) x0 x1 x2 x3 x4 S)
    by_cases hi : i < b
    · obtain ⟨y0, y1, y2, y3, y4, S2, h4, h5⟩ := hs i x0 x1 x2 x3 x4 S hi h3 _
      rw [h5]
      exact ih (i + 1) y0 y1 y2 y3 y4 S2 hi (by omega) h4
    · have e : i = b := by omega
      subst e
      exact he x0 x1 x2 x3 x4 S h3 _
theorem it6_inv {α0 α1 α2 α3 α4 α5 : Type} {ζ : Type} {F : (α0 → α1 → α2 → α3 → α4 → α5 → St → Option ζ) → α0 → α1 → α2 → α3 → α4 → α5 → St → Option ζ} (Inv : Nat → α0 → α1 → α2 → α3 → α4 → α5 → St → Prop) (b : Nat) (P : Option ζ → Prop) (hs : ∀ i (x0 : α0) (x1 : α1) (x2 : α2) (x3 : α3) (x4 : α4) (x5 : α5) (S : St), i < b → Inv i x0 x1 x2 x3 x4 x5 S → ∀ rec, ∃ (y0 : α0) (y1 : α1) (y2 : α2) (y3 : α3) (y4 : α4) (y5 : α5) (S2 : St), Inv (i + 1) y0 y1 y2 y3 y4 y5 S2 ∧ F rec x0 x1 x2 x3 x4 x5 S = rec y0 y1 y2 y3 y4 y5 S2) (he : ∀ (x0 : α0) (x1 : α1) (x2 : α2) (x3 : α3) (x4 : α4) (x5 : α5) (S : St), Inv b x0 x1 x2 x3 x4 x5 S → ∀ rec, P (F rec x0 x1 x2 x3 x4 x5 S)) : ∀ N i x0 x1 x2 x3 x4 x5 S, i ≤ b → b - i < N → Inv i x0 x1 x2 x3 x4 x5 S → P (it6 F N x0 x1 x2 x3 x4 x5 S) := by
  intro N
  induction N with
  | zero => intros; omega
  | succ N ih =>
    intro i x0 x1 x2 x3 x4 x5 S h1 h2 h3
    show P (F (it6 F N) x0 x1 x2 x3 x4 x5 S)
    by_cases hi : i < b
    · obtain ⟨y0, y1, y2, y3, y4, y5, S2, h4, h5⟩ := hs i x0 x1 x2 x3 x4 x5 S hi h3 _
      rw [h5]
      exact ih (i + 1) y0 y1 y2 y3 y4 y5 S2 hi (by omega) h4
    · have e : i = b := by omega
      subst e
      exact he x0 x1 x2 x3 x4 x5 S h3 _
theorem it0_s {ζ : Type} {F : (St → Option ζ) → St → Option ζ} {n : Nat} {S : St} : it0 F (n + 1) S = F (it0 F n) S := rfl
theorem it1_s {α0 : Type} {ζ : Type} {F : (α0 → St → Option ζ) → α0 → St → Option ζ} {n : Nat} {x0 : α0} {S : St} : it1 F (n + 1) x0 S = F (it1 F n) x0 S := rfl
theorem it2_s {α0 α1 : Type} {ζ : Type} {F : (α0 → α1 → St → Option ζ) → α0 → α1 → St → Option ζ} {n : Nat} {x0 : α0} {x1 : α1} {S : St} : it2 F (n + 1) x0 x1 S = F (it2 F n) x0 x1 S := rfl
theorem it3_s {α0 α1 α2 : Type} {ζ : Type} {F : (α0 → α1 → α2 → St → Option ζ) → α0 → α1 → α2 → St → Option ζ} {n : Nat} {x0 : α0} {x1 : α1} {x2 : α2} {S : St} : it3 F (n + 1) x0 x1 x2 S = F (it3 F n) x0 x1 x2 S := rfl
theorem it4_s {α0 α1 α2 α3 : Type} {ζ : Type} {F : (α0 → α1 → α2 → α3 → St → Option ζ) → α0 → α1 → α2 → α3 → St → Option ζ} {n : Nat} {x0 : α0} {x1 : α1} {x2 : α2} {x3 : α3} {S : St} : it4 F (n + 1) x0 x1 x2 x3 S = F (it4 F n) x0 x1 x2 x3 S := rfl
theorem it5_s {α0 α1 α2 α3 α4 : Type} {ζ : Type} {F : (α0 → α1 → α2 → α3 → α4 → St → Option ζ) → α0 → α1 → α2 → α3 → α4 → St → Option ζ} {n : Nat} {x0 : α0} {x1 : α1} {x2 : α2} {x3 : α3} {x4 : α4} {S : St} : it5 F (n + 1) x0 x1 x2 x3 x4 S = F (it5 F n) x0 x1 x2 x3 x4 S := rfl
theorem it6_s {α0 α1 α2 α3 α4 α5 : Type} {ζ : Type} {F : (α0 → α1 → α2 → α3 → α4 → α5 → St → Option ζ) → α0 → α1 → α2 → α3 → α4 → α5 → St → Option ζ} {n : Nat} {x0 : α0} {x1 : α1} {x2 : α2} {x3 : α3} {x4 : α4} {x5 : α5} {S : St} : it6 F (n + 1) x0 x1 x2 x3 x4 x5 S = F (it6 F n) x0 x1 x2 x3 x4 x5 S := rfl
