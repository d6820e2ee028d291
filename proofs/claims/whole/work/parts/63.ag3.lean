/-! has, value, change -/
def hasB (D : Nat → Nat → Int) (o : Int) : Nat := bs (fun c => decide (D 4 c = o)) (ND D)
def hasY (D : Nat → Nat → Int) (o : Int) : Int := sm (fun c => if D 4 c = o then yD D c else 0) (ND D)
theorem yD_bd {D : Nat → Nat → Int} (R : Rg D) (h : 0 < ND D) (c : Nat) : 0 ≤ yD D c ∧ yD D c ≤ 4752 := yr_bd (gr_D R h) c
theorem x_has {S : St} {D : Nat → Nat → Int} (R : Rg D) (X : RX S D) {o w : Int} (ho : 0 ≤ o ∧ o < 4) (hw : 0 ≤ w ∧ w < 2) : m_X6_has (iI o) (iI w) S = some (if w = 0 then nI (hasB D o) else iI (hasY D o), S) := by
  have hN := ND_le (D := D)
  have e43 : gI S 43 0 = iI ((ND D : Nat) : Int) := X.2.2.1.1.2.1
  unfold m_X6_has
  rw [l4, x_below (by omega), bnd_some, ite01, if_pos ho, l2, x_below (by omega), bnd_some, ite01, if_pos hw]
  refine it3_inv (fun i x y z T => x = nI (bs (fun c => decide (D 4 c = o)) i) ∧ y = iI (sm (fun c => if D 4 c = o then yD D c else 0) i) ∧ z = iI (i : Int) ∧ T = S) (ND D) (fun q => q = some (if w = 0 then nI (hasB D o) else iI (hasY D o), S)) ?_ ?_ 5000 0 _ _ _ S (Nat.zero_le _) (by omega) ⟨rfl, rfl, rfl, rfl⟩
  · rintro i x y z T hi ⟨rfl, rfl, rfl, rfl⟩ rec
    refine ⟨nI (bs (fun c => decide (D 4 c = o)) (i + 1)), iI (sm (fun c => if D 4 c = o then yD D c else 0) (i + 1)), iI ((i + 1 : Nat) : Int), T, ⟨rfl, rfl, rfl, rfl⟩, ?_⟩
    unfold b_X6_has_27 m_X1_cells
    have e4 : gI T 25 i = iI (D 4 i) := X.1 4 i (show i < 12 by omega)
    have r4 : 0 ≤ D 4 i ∧ D 4 i ≤ 3 := R 4 i
    rw [bnd_some, e43, lt_t (by omega), chk_t (by omega), ix_n (by omega), e4, if_eq (by omega), bs, sm]
    by_cases q : D 4 i = o
    · rw [if_pos q, if_pos q, if_pos (by simp [q]), iI_n i, bs_or _ (by omega), nm_eq, ← iI_n i, x_yearOf X hi, bnd_some, iI_add, nm_eq, l1, iI_add]
      rfl
    · rw [if_neg q, if_neg q, if_neg (by simp [q]), l1, iI_add, Int.add_zero, Nat.add_zero]
      rfl
  · rintro x y z T ⟨rfl, rfl, rfl, rfl⟩ rec
    unfold b_X6_has_27 m_X1_cells
    rw [bnd_some, e43, lt_f (by omega)]
    dsimp only
    rcases (show w = 0 ∨ w = 1 by omega) with rfl | rfl
    · rfl
    · rfl
theorem m_has {S : St} {D : Nat → Nat → Int} (R : Rg D) (M : RM_ S D) {o w : Int} (ho : 0 ≤ o ∧ o < 4) (hw : 0 ≤ w ∧ w < 2) : ∃ T, m_X7_hasOf (iI o) (iI w) S = some (if w = 0 then nI (hasB D o) else iI (hasY D o), T) ∧ Fr scrM S T ∧ Vw T D := by
  have hN := ND_le (D := D)
  obtain ⟨T, h1, h2, V⟩ := m_flt R M
  refine ⟨T, ?_, h2, V⟩
  unfold m_X7_hasOf
  rw [h1, bnd_some]
  refine it3_inv (fun i x y z U => x = nI (bs (fun c => decide (D 4 c = o)) i) ∧ y = iI (sm (fun c => if D 4 c = o then yD D c else 0) i) ∧ z = iI (i : Int) ∧ U = T) (ND D) (fun q => q = some (if w = 0 then nI (hasB D o) else iI (hasY D o), T)) ?_ ?_ 5000 0 _ _ _ T (Nat.zero_le _) (by omega) ⟨rfl, rfl, rfl, rfl⟩
  · rintro i x y z U hi ⟨rfl, rfl, rfl, rfl⟩ rec
    refine ⟨nI (bs (fun c => decide (D 4 c = o)) (i + 1)), iI (sm (fun c => if D 4 c = o then yD D c else 0) (i + 1)), iI ((i + 1 : Nat) : Int), U, ⟨rfl, rfl, rfl, rfl⟩, ?_⟩
    unfold b_X7_hasOf_14
    have e4 : gI U 4 i = iI (D 4 i) := V.1.1 4 i (show i < 12 by omega)
    have r4 : 0 ≤ D 4 i ∧ D 4 i ≤ 3 := R 4 i
    rw [V.cells, lt_t (by omega), chk_t (by omega), ix_n (by omega), e4, bs, sm]
    by_cases q : D 4 i = o
    · rw [eq_t q, if_pos q, if_pos (by simp [q]), iI_n i, bs_or _ (by omega), nm_eq, ← iI_n i, chk_t (by omega), eq_t q, m_year (gr_D R (by omega)) (gvv V.1.1 V.2) hi, bnd_some, iI_add, nm_eq, l1, iI_add]
      rfl
    · rw [eq_f (by omega), if_neg q, if_neg (by simp [q]), or_0, nm_eq, chk_t (by omega), eq_f (by omega), iI_0, iI_add, nm_eq, l1, iI_add, Nat.add_zero]
      rfl
  · rintro x y z U ⟨rfl, rfl, rfl, rfl⟩ rec
    unfold b_X7_hasOf_14
    rw [V.cells, lt_f (by omega)]
    dsimp only
    rcases (show w = 0 ∨ w = 1 by omega) with rfl | rfl
    · rfl
    · rfl
theorem ag_has : Ag_has Rel := by
  rintro SX SM ⟨D, R, X, M⟩ x1 x2
  obtain ⟨a, rfl, a1, a2⟩ := iI_of x1
  obtain ⟨b, rfl, b1, b2⟩ := iI_of x2
  by_cases q1 : 0 ≤ a ∧ a < 4
  · by_cases q2 : 0 ≤ b ∧ b < 2
    · obtain ⟨T, t1, t2, V⟩ := m_has R M q1 q2
      refine ⟨_, _, T, x_has R X q1 q2, ?_, D, R, X, V.1⟩
      unfold m_X7_has
      rw [m_four (by omega), bnd_some, ite01, if_pos q1, m_inN (n := 2) l1 (by omega), bnd_some, ite01, if_pos q2, t1, bnd_some]
    · refine ⟨-2, SX, SM, ?_, ?_, D, R, X, M⟩
      · unfold m_X6_has
        rw [l4, x_below (by omega), bnd_some, ite01, if_pos q1, l2, x_below (by omega), bnd_some, ite01, if_neg q2]
      · unfold m_X7_has
        rw [m_four (by omega), bnd_some, ite01, if_pos q1, m_inN (n := 2) l1 (by omega), bnd_some, ite01, if_neg q2]
  · refine ⟨-2, SX, SM, ?_, ?_, D, R, X, M⟩
    · unfold m_X6_has
      rw [l4, x_below (by omega), bnd_some, ite01, if_neg q1]
    · unfold m_X7_has
      rw [m_four (by omega), bnd_some, ite01, if_neg q1]
def valT (D : Nat → Nat → Int) (c o s : Nat) : Int := (hr (wD D) (hD D) (D 3) c s : Int) * D 5 s * D 7 (4 * o + s)
def valD (D : Nat → Nat → Int) (c o : Nat) : Int := sm (valT D c o) 4
theorem val_bd {D : Nat → Nat → Int} (R : Rg D) (c o : Nat) : 0 ≤ valD D c o ∧ valD D c o ≤ 42768 := by
  have h1 := sm_bd (f := valT D c o) (a := 0) (b := 10692) (n := 4) (fun s _ => by
    have h2 := hr_le (wD D) (hD D) (D 3) c s
    have h3 : 0 ≤ D 5 s ∧ D 5 s ≤ 99 := R 5 s
    have h4 : 0 ≤ D 7 (4 * o + s) ∧ D 7 (4 * o + s) ≤ 9 := R 7 _
    unfold valT
    have g1 := Int.mul_nonneg (show 0 ≤ (hr (wD D) (hD D) (D 3) c s : Int) by omega) h3.1
    have g2 := Int.mul_le_mul (show (hr (wD D) (hD D) (D 3) c s : Int) ≤ 12 by omega) h3.2 h3.1 (by omega)
    exact ⟨Int.mul_nonneg g1 h4.1, by have := Int.mul_le_mul g2 h4.2 h4.1 (by omega); omega⟩)
  unfold valD
  omega
theorem x_worthTo {S : St} {D : Nat → Nat → Int} (X : RX S D) {c o : Nat} (hc : c < ND D) (ho : o < 4) : m_X6_worthTo (iI o) (iI c) S = some (iI (valD D c o), S) := by
  unfold m_X6_worthTo
  refine it2_inv (fun i x y T => x = iI (sm (valT D c o) i) ∧ y = iI (i : Int) ∧ T = S) 4 (fun q => q = some (iI (valD D c o), S)) ?_ ?_ 5000 0 _ _ S (Nat.zero_le _) (by omega) ⟨rfl, rfl, rfl⟩
  · rintro i x y T hi ⟨rfl, rfl, rfl⟩ rec
    refine ⟨iI (sm (valT D c o) (i + 1)), iI ((i + 1 : Nat) : Int), T, ⟨rfl, rfl, rfl⟩, ?_⟩
    unfold b_X6_worthTo_5 m_X5_daysOf
    have e5 : gI T 11 i = iI (D 5 i) := X.1 5 i (show i < 4 by omega)
    have e7 : gI T 26 (4 * o + i) = iI (D 7 (4 * o + i)) := X.1 7 _ (show 4 * o + i < 16 by omega)
    rw [l4, lt_t (by omega), x_hoursOf X hc hi, bnd_some, chk_t (by omega), ix_n (by omega), e5, bnd_some, iI_mul, iI_add, show ((o : Int) * 4 + (i : Int)) = ((4 * o + i : Nat) : Int) by push_cast; omega, chk_t (by omega), ix_n (by omega), e7, ← iI_n, iI_mul, iI_mul, iI_add, nm_eq, l1, iI_add]
    rfl
  · rintro x y T ⟨rfl, rfl, rfl⟩ rec
    unfold b_X6_worthTo_5
    rw [l4, lt_f (by omega)]
    rfl
theorem m_valueOf {S : St} {D : Nat → Nat → Int} (R : Rg D) (V : Vw S D) {c o : Nat} (hc : c < ND D) (ho : o < 4) : m_X7_valueOf (iI c) (iI o) S = some (iI (valD D c o), S) := by
  unfold m_X7_valueOf
  refine it2_inv (fun i x y T => x = iI (sm (valT D c o) i) ∧ y = iI (i : Int) ∧ T = S) 4 (fun q => q = some (iI (valD D c o), S)) ?_ ?_ 5000 0 _ _ S (Nat.zero_le _) (by omega) ⟨rfl, rfl, rfl⟩
  · rintro i x y T hi ⟨rfl, rfl, rfl⟩ rec
    refine ⟨iI (sm (valT D c o) (i + 1)), iI ((i + 1 : Nat) : Int), T, ⟨rfl, rfl, rfl⟩, ?_⟩
    unfold b_X7_valueOf_5
    have e5 : gI T 5 i = iI (D 5 i) := V.1.1 5 i (show i < 4 by omega)
    have e7 : gI T 7 (4 * o + i) = iI (D 7 (4 * o + i)) := V.1.1 7 _ (show 4 * o + i < 16 by omega)
    rw [l4, lt_t (by omega), m_hrs R V hc hi, chk_t (by omega), ix_n (by omega), e5, iI_mul, iI_add, show ((4 : Int) * (o : Int) + (i : Int)) = ((4 * o + i : Nat) : Int) by push_cast; omega, chk_t (by omega), ix_n (by omega), e7, ← iI_n, iI_mul, iI_mul, iI_add, nm_eq, l1, iI_add]
    rfl
  · rintro x y T ⟨rfl, rfl, rfl⟩ rec
    unfold b_X7_valueOf_5
    rw [l4, lt_f (by omega)]
    rfl
theorem ag_value : Ag_value Rel := by
  rintro SX SM ⟨D, R, X, M⟩ x1 x2
  obtain ⟨a, rfl, a1, a2⟩ := iI_of x1
  obtain ⟨b, rfl, b1, b2⟩ := iI_of x2
  obtain ⟨T, t1, V⟩ := m_isCell R M (a := a) (by omega)
  have hN := ND_le (D := D)
  unfold m_X6_value m_X7_value
  rw [x_isCell X (by omega), bnd_some, ite01, t1, bnd_some, ite01]
  by_cases q1 : 0 ≤ a ∧ a < ND D
  · rw [if_pos q1, if_pos q1, l4, x_below (by omega), bnd_some, ite01, m_four (by omega), bnd_some, ite01]
    by_cases q2 : 0 ≤ b ∧ b < 4
    · obtain ⟨c, rfl⟩ : ∃ c : Nat, a = c := ⟨a.toNat, by omega⟩
      obtain ⟨o, rfl⟩ : ∃ o : Nat, b = o := ⟨b.toNat, by omega⟩
      rw [if_pos q2, if_pos q2, x_worthTo X (by omega) (by omega), bnd_some, m_valueOf R V (by omega) (by omega), bnd_some]
      exact ⟨_, _, _, rfl, rfl, D, R, X, V.1⟩
    · rw [if_neg q2, if_neg q2]
      exact ⟨_, _, _, rfl, rfl, D, R, X, V.1⟩
  · rw [if_neg q1, if_neg q1]
    exact ⟨_, _, _, rfl, rfl, D, R, X, V.1⟩
/-- would the owner of a rather have b -/
def rat (D : Nat → Nat → Int) (a b : Nat) : Bool := decide (valD D a (D 4 a).toNat < valD D b (D 4 a).toNat)
def swp (D : Nat → Nat → Int) (a b : Nat) : Bool := decide (D 4 a ≠ D 4 b) && (rat D a b && rat D b a)
theorem x_rather {S : St} {D : Nat → Nat → Int} (R : Rg D) (X : RX S D) {a b : Nat} (ha : a < ND D) (hb : b < ND D) : m_X6_wouldRather (iI a) (iI b) S = some (if rat D a b = true then 1 else 0, S) := by
  have hN := ND_le (D := D)
  have e4 : gI S 25 a = iI (D 4 a) := X.1 4 a (show a < 12 by omega)
  have r4 : 0 ≤ D 4 a ∧ D 4 a ≤ 3 := R 4 a
  have v1 := val_bd R a (D 4 a).toNat
  have v2 := val_bd R b (D 4 a).toNat
  unfold m_X6_wouldRather rat
  obtain ⟨o, ho⟩ : ∃ o : Nat, D 4 a = o := ⟨(D 4 a).toNat, by omega⟩
  rw [ho] at e4 v1 v2 ⊢
  rw [chk_t (by omega), ix_n (by omega), e4, x_worthTo X hb (by omega), bnd_some, chk_t (by omega), e4, x_worthTo X ha (by omega), bnd_some, Int.toNat_natCast]
  rw [Int.toNat_natCast] at v1 v2
  rw [if_lt (by omega)]
  by_cases q : valD D a o < valD D b o
  · rw [if_pos q, if_pos (by simp [q])]
  · rw [if_neg q, if_neg (by simp [q])]
theorem m_rather {S : St} {D : Nat → Nat → Int} (R : Rg D) (V : Vw S D) {a b : Nat} (ha : a < ND D) (hb : b < ND D) : m_X7_isRather (iI a) (iI b) S = some (if rat D a b = true then 1 else 0, S) := by
  have hN := ND_le (D := D)
  have e4 : gI S 4 a = iI (D 4 a) := V.1.1 4 a (show a < 12 by omega)
  have r4 : 0 ≤ D 4 a ∧ D 4 a ≤ 3 := R 4 a
  have v1 := val_bd R a (D 4 a).toNat
  have v2 := val_bd R b (D 4 a).toNat
  unfold m_X7_isRather rat
  obtain ⟨o, ho⟩ : ∃ o : Nat, D 4 a = o := ⟨(D 4 a).toNat, by omega⟩
  rw [ho] at e4 v1 v2 ⊢
  rw [chk_t (by omega), ix_n (by omega), e4, m_valueOf R V hb (by omega), bnd_some, chk_t (by omega), e4, m_valueOf R V ha (by omega), bnd_some, Int.toNat_natCast]
  rw [Int.toNat_natCast] at v1 v2
  rw [if_lt (by omega)]
  by_cases q : valD D a o < valD D b o
  · rw [if_pos q, if_pos (by simp [q])]
  · rw [if_neg q, if_neg (by simp [q])]
theorem x_swap {S : St} {D : Nat → Nat → Int} (R : Rg D) (X : RX S D) {a b : Nat} (ha : a < ND D) (hb : b < ND D) : m_X6_wouldSwap (iI a) (iI b) S = some (if swp D a b = true then 1 else 0, S) := by
  have hN := ND_le (D := D)
  have e1 : gI S 25 a = iI (D 4 a) := X.1 4 a (show a < 12 by omega)
  have e2 : gI S 25 b = iI (D 4 b) := X.1 4 b (show b < 12 by omega)
  have r1 : 0 ≤ D 4 a ∧ D 4 a ≤ 3 := R 4 a
  have r2 : 0 ≤ D 4 b ∧ D 4 b ≤ 3 := R 4 b
  unfold m_X6_wouldSwap swp
  rw [chk_t (by omega), chk_t (by omega), ix_n (by omega), ix_n (by omega), e1, e2, if_eq (by omega), x_rather R X ha hb, bnd_some, ite01, x_rather R X hb ha, bnd_some, ite01]
  by_cases q : D 4 a = D 4 b
  · rw [if_pos q, if_neg (by simp [q])]
  · rw [if_neg q]
    by_cases q1 : rat D a b = true
    · rw [if_pos q1]
      by_cases q2 : rat D b a = true
      · rw [if_pos q2, if_pos (by simp [q, q1, q2])]
      · rw [if_neg q2, if_neg (by simp [q2])]
    · rw [if_neg q1, if_neg (by simp [q1])]
theorem m_swap {S : St} {D : Nat → Nat → Int} (R : Rg D) (V : Vw S D) {a b : Nat} (ha : a < ND D) (hb : b < ND D) : m_X7_isChange (iI a) (iI b) S = some (if swp D a b = true then 1 else 0, S) := by
  have hN := ND_le (D := D)
  have e1 : gI S 4 a = iI (D 4 a) := V.1.1 4 a (show a < 12 by omega)
  have e2 : gI S 4 b = iI (D 4 b) := V.1.1 4 b (show b < 12 by omega)
  have r1 : 0 ≤ D 4 a ∧ D 4 a ≤ 3 := R 4 a
  have r2 : 0 ≤ D 4 b ∧ D 4 b ≤ 3 := R 4 b
  unfold m_X7_isChange swp
  rw [chk_t (by omega), chk_t (by omega), ix_n (by omega), ix_n (by omega), e1, e2, if_eq (by omega), m_rather R V ha hb, bnd_some, ite01, m_rather R V hb ha, bnd_some, ite01]
  by_cases q : D 4 a = D 4 b
  · rw [if_pos q, if_neg (by simp [q])]
  · rw [if_neg q]
    by_cases q1 : rat D a b = true
    · rw [if_pos q1]
      by_cases q2 : rat D b a = true
      · rw [if_pos q2, if_pos (by simp [q, q1, q2])]
      · rw [if_neg q2, if_neg (by simp [q2])]
    · rw [if_neg q1, if_neg (by simp [q1])]
theorem ag_change : Ag_change Rel := by
  rintro SX SM ⟨D, R, X, M⟩ x1 x2
  obtain ⟨a, rfl, a1, a2⟩ := iI_of x1
  obtain ⟨b, rfl, b1, b2⟩ := iI_of x2
  obtain ⟨T, t1, V⟩ := m_isCell R M (a := a) (by omega)
  obtain ⟨U, u1, W⟩ := m_isCell R V.1 (a := b) (by omega)
  have hN := ND_le (D := D)
  unfold m_X6_change m_X7_change
  rw [x_isCell X (by omega), bnd_some, ite01, t1, bnd_some, ite01]
  by_cases q1 : 0 ≤ a ∧ a < ND D
  · rw [if_pos q1, if_pos q1, x_isCell X (by omega), bnd_some, ite01, u1, bnd_some, ite01]
    by_cases q2 : 0 ≤ b ∧ b < ND D
    · rw [if_pos q2, if_pos q2, if_eq (by omega), if_eq (by omega)]
      by_cases q3 : a = b
      · rw [if_pos q3, if_pos q3]
        exact ⟨_, _, _, rfl, rfl, D, R, X, W.1⟩
      · obtain ⟨c, rfl⟩ : ∃ c : Nat, a = c := ⟨a.toNat, by omega⟩
        obtain ⟨o, rfl⟩ : ∃ o : Nat, b = o := ⟨b.toNat, by omega⟩
        rw [if_neg q3, if_neg q3, x_swap R X (by omega) (by omega), bnd_some, ite01, m_swap R W (by omega) (by omega), bnd_some, ite01]
        by_cases q4 : swp D c o = true
        · rw [if_pos q4, if_pos q4]
          exact ⟨_, _, _, rfl, rfl, D, R, X, W.1⟩
        · rw [if_neg q4, if_neg q4]
          exact ⟨_, _, _, rfl, rfl, D, R, X, W.1⟩
    · rw [if_neg q2, if_neg q2]
      exact ⟨_, _, _, rfl, rfl, D, R, X, W.1⟩
  · rw [if_neg q1, if_neg q1]
    exact ⟨_, _, _, rfl, rfl, D, R, X, V.1⟩
