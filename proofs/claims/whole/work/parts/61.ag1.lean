/-! THE AGREEMENTS, one call after the other -/
theorem ite01 {α : Type} {c : Prop} [Decidable c] {x y : α} : (if (if c then (1 : Int32) else 0) = 0 then x else y) = if c then y else x := by
  by_cases h : c
  · rw [if_pos h, if_pos h, if_neg (by decide)]
  · rw [if_neg h, if_neg h, if_pos rfl]
theorem z01 {ζ : Type} {c : Prop} [Decidable c] {o : Option ζ} : zchk (if c then (1 : Int32) else 0) o = o := zchk_t (by by_cases h : c <;> simp [h])
theorem x_below {S : St} {a b : Int} (h : -2147483648 ≤ a ∧ a < 2147483648 ∧ -2147483648 ≤ b ∧ b < 2147483648) : m_X6_isBelow (iI a) (iI b) S = some (if 0 ≤ a ∧ a < b then 1 else 0, S) := by
  unfold m_X6_isBelow
  by_cases q : a < 0
  · rw [lt0_t (by omega), if_neg (by omega)]
  · rw [lt0_f (by omega), if_lt (by omega)]
    by_cases q2 : a < b
    · rw [if_pos q2, if_pos (by omega)]
    · rw [if_neg q2, if_neg (by omega)]
theorem m_four {S : St} {a : Int} (h : -2147483648 ≤ a ∧ a < 2147483648) : m_X7_isFour (iI a) S = some (if 0 ≤ a ∧ a < 4 then 1 else 0, S) := by
  unfold m_X7_isFour
  rw [l3, m_in0 (by omega), bnd_some, z01]
  congr 3
  exact propext (by omega)
theorem m_twelve {S : St} {a : Int} (h : -2147483648 ≤ a ∧ a < 2147483648) : m_X7_isTwelve (iI a) S = some (if 0 ≤ a ∧ a < 12 then 1 else 0, S) := by
  unfold m_X7_isTwelve
  rw [l11, m_in0 (by omega), bnd_some, z01]
  congr 3
  exact propext (by omega)
theorem m_sheet {S : St} {a : Int} (h : -2147483648 ≤ a ∧ a < 2147483648) : m_X7_isSheet (iI a) S = some (if 0 ≤ a ∧ a < 4 then 1 else 0, S) := by
  unfold m_X7_isSheet
  rw [l3, m_in0 (by omega), bnd_some, z01]
  congr 3
  exact propext (by omega)
theorem m_inN {S : St} {a : Int} {n : Int} {N : Int32} (e : N = iI (n - 1)) (h : -2147483648 ≤ a ∧ a < 2147483648 ∧ -2147483648 < n ∧ n < 2147483648) : m_X7_in (iI a) 0 N S = some (if 0 ≤ a ∧ a < n then 1 else 0, S) := by
  rw [e, m_in0 (by omega)]
  congr 3
  exact propext (by omega)
theorem ND_le {D : Nat → Nat → Int} : ND D ≤ 12 := by
  rcases prs_cases (D 1) (nD D) with ⟨h1, h2, h3⟩ | ⟨h0, h1, h2, h3⟩ | ⟨h1, h2, h3, h4, h5, h6, h7⟩
  · unfold ND wD rD; rw [h2]; omega
  · unfold ND wD rD; rw [h2]; omega
  · exact Nat.le_trans (Nat.mul_le_mul h3 h5) (by omega)
theorem x_isCell {S : St} {D : Nat → Nat → Int} (X : RX S D) {a : Int} (h : -2147483648 ≤ a ∧ a < 2147483648) : m_X6_isCell (iI a) S = some (if 0 ≤ a ∧ a < ND D then 1 else 0, S) := by
  have := ND_le (D := D)
  have e : gI S 43 0 = iI ((ND D : Nat) : Int) := X.2.2.1.1.2.1
  unfold m_X6_isCell m_X1_cells
  rw [bnd_some, e, x_below (by omega), bnd_some, z01]
/-- behind faultNow the reference sees the ground -/
def Vw (S : St) (D : Nat → Nat → Int) : Prop := RM_ S D ∧ Lm S (D 1) (prs (D 1) (nD D))
def scrM : List Nat := [2, 41, 42, 43]
theorem m_flt {S : St} {D : Nat → Nat → Int} (R : Rg D) (M : RM_ S D) : ∃ T, m_X7_faultNow S = some (iI (ft (D 1) (nD D)), T) ∧ Fr scrM S T ∧ Vw T D := by
  obtain ⟨T, h1, h2, h3⟩ := m_fault (txm R M.1)
  exact ⟨T, h1, h2, M.fr h2 (by decide), h3⟩
theorem Vw.cells {S : St} {D : Nat → Nat → Int} (V : Vw S D) : gI S 41 0 = iI ((ND D : Nat) : Int) := V.2.1
theorem m_isCell {S : St} {D : Nat → Nat → Int} (R : Rg D) (M : RM_ S D) {a : Int} (h : -2147483648 ≤ a ∧ a < 2147483648) : ∃ T, m_X7_isCell (iI a) S = some (if 0 ≤ a ∧ a < ND D then 1 else 0, T) ∧ Vw T D := by
  obtain ⟨T, h1, h2, h3⟩ := m_flt R M
  have := ND_le (D := D)
  refine ⟨T, ?_, h3⟩
  unfold m_X7_isCell
  rw [h1, bnd_some, m_inN (n := ((ND D : Nat) : Int)) (by rw [h3.cells, l1, iI_sub]) (by omega), bnd_some, z01]
theorem ag_fault : Ag_fault Rel := by
  rintro SX SM ⟨D, R, X, M⟩
  obtain ⟨T, h1, h2, h3⟩ := m_flt R M
  refine ⟨iI (ft (D 1) (nD D)), SX, T, ?_, ?_, D, R, X, h3.1⟩
  · unfold m_X6_fault m_X1_faultPlace
    rw [bnd_some, X.2.2.1.1.1]
  · unfold m_X7_fault
    rw [h1, bnd_some]
theorem ag_owner : Ag_owner Rel := by
  rintro SX SM ⟨D, R, X, M⟩ x1 x2
  obtain ⟨a, rfl, a1, a2⟩ := iI_of x1
  obtain ⟨b, rfl, b1, b2⟩ := iI_of x2
  unfold m_X6_owner m_X7_owner
  rw [l12, x_below (by omega), bnd_some, ite01, m_twelve (by omega), bnd_some, ite01]
  by_cases q1 : 0 ≤ a ∧ a < 12
  · rw [if_pos q1, if_pos q1, l4, x_below (by omega), bnd_some, ite01, m_four (by omega), bnd_some, ite01]
    by_cases q2 : 0 ≤ b ∧ b < 4
    · rw [if_pos q2, if_pos q2]
      simp only [nm_eq, chk_t (a := a) (n := 12) (by omega), ix_iI (a := a) (by omega) (by omega)]
      have e1 : gI SX 25 a.toNat = iI (D 4 a.toNat) := X.1 4 _ (show a.toNat < 12 by omega)
      have e2 : gI SM 4 a.toNat = iI (D 4 a.toNat) := M.1 4 _ (show a.toNat < 12 by omega)
      rw [e1, e2]
      exact ⟨_, _, _, rfl, rfl, upD D 4 a.toNat b, R.up (show 0 ≤ b ∧ b ≤ 3 by omega), X.up (k := 4) a.toNat b (by decide), M.up a.toNat b (by decide)⟩
    · rw [if_neg q2, if_neg q2]
      exact ⟨_, _, _, rfl, rfl, D, R, X, M⟩
  · rw [if_neg q1, if_neg q1]
    exact ⟨_, _, _, rfl, rfl, D, R, X, M⟩
theorem ag_clouds : Ag_clouds Rel := by
  rintro SX SM ⟨D, R, X, M⟩ x1 x2
  obtain ⟨a, rfl, a1, a2⟩ := iI_of x1
  obtain ⟨b, rfl, b1, b2⟩ := iI_of x2
  unfold m_X6_clouds m_X7_clouds
  rw [l4, x_below (by omega), bnd_some, ite01, m_four (by omega), bnd_some, ite01]
  by_cases q1 : 0 ≤ a ∧ a < 4
  · rw [if_pos q1, if_pos q1, l17, x_below (by omega), bnd_some, ite01, m_inN (n := 17) l16 (by omega), bnd_some, ite01]
    by_cases q2 : 0 ≤ b ∧ b < 17
    · rw [if_pos q2, if_pos q2]
      simp only [nm_eq, chk_t (a := a) (n := 4) (by omega), ix_iI (a := a) (by omega) (by omega)]
      have e1 : gI SX 31 a.toNat = iI (D 6 a.toNat) := X.1 6 _ (show a.toNat < 4 by omega)
      have e2 : gI SM 6 a.toNat = iI (D 6 a.toNat) := M.1 6 _ (show a.toNat < 4 by omega)
      rw [e1, e2]
      exact ⟨_, _, _, rfl, rfl, upD D 6 a.toNat b, R.up (show 0 ≤ b ∧ b ≤ 16 by omega), X.up (k := 6) a.toNat b (by decide), M.up a.toNat b (by decide)⟩
    · rw [if_neg q2, if_neg q2]
      exact ⟨_, _, _, rfl, rfl, D, R, X, M⟩
  · rw [if_neg q1, if_neg q1]
    exact ⟨_, _, _, rfl, rfl, D, R, X, M⟩
theorem ag_worth : Ag_worth Rel := by
  rintro SX SM ⟨D, R, X, M⟩ x1 x2 x3
  obtain ⟨a, rfl, a1, a2⟩ := iI_of x1
  obtain ⟨b, rfl, b1, b2⟩ := iI_of x2
  obtain ⟨v, rfl, v1, v2⟩ := iI_of x3
  unfold m_X6_worth m_X7_worth
  rw [l4, x_below (by omega), bnd_some, ite01, m_four (by omega), bnd_some, ite01]
  by_cases q1 : 0 ≤ a ∧ a < 4
  · rw [if_pos q1, if_pos q1, x_below (by omega), bnd_some, ite01, m_four (by omega), bnd_some, ite01]
    by_cases q2 : 0 ≤ b ∧ b < 4
    · rw [if_pos q2, if_pos q2, l10, x_below (by omega), bnd_some, ite01, m_inN (n := 10) l9 (by omega), bnd_some, ite01]
      by_cases q3 : 0 ≤ v ∧ v < 10
      · have ei : a * 4 + b = 4 * a + b := by omega
        rw [if_pos q3, if_pos q3]
        simp only [nm_eq, iI_mul, iI_add, ei, chk_t (a := 4 * a + b) (n := 16) (by omega), ix_iI (a := 4 * a + b) (by omega) (by omega)]
        have e1 : gI SX 26 (4 * a + b).toNat = iI (D 7 (4 * a + b).toNat) := X.1 7 _ (show (4 * a + b).toNat < 16 by omega)
        have e2 : gI SM 7 (4 * a + b).toNat = iI (D 7 (4 * a + b).toNat) := M.1 7 _ (show (4 * a + b).toNat < 16 by omega)
        rw [e1, e2]
        exact ⟨_, _, _, rfl, rfl, upD D 7 (4 * a + b).toNat v, R.up (show 0 ≤ v ∧ v ≤ 9 by omega), X.up (k := 7) (4 * a + b).toNat v (by decide), M.up (4 * a + b).toNat v (by decide)⟩
      · rw [if_neg q3, if_neg q3]
        exact ⟨_, _, _, rfl, rfl, D, R, X, M⟩
    · rw [if_neg q2, if_neg q2]
      exact ⟨_, _, _, rfl, rfl, D, R, X, M⟩
  · rw [if_neg q1, if_neg q1]
    exact ⟨_, _, _, rfl, rfl, D, R, X, M⟩
theorem ag_forget : Ag_forget Rel := by
  rintro SX SM ⟨D, R, X, M⟩
  have e1 : gI SX 54 0 = iI (D 44 0) := X.1 44 0 (by decide)
  have e2 : gI SM 44 0 = iI (D 44 0) := M.1 44 0 (by decide)
  unfold m_X6_forget m_X7_forget
  rw [e1, e2, nm_eq, nm_eq, nm_eq, nm_eq]
  exact ⟨_, _, _, rfl, rfl, upD D 44 0 0, R.up (by decide), X.up (k := 44) 0 0 (by decide), M.up 0 0 (by decide)⟩
theorem ag_steep : Ag_steep Rel := by
  rintro SX SM ⟨D, R, X, M⟩ x1 x2
  obtain ⟨a, rfl, a1, a2⟩ := iI_of x1
  obtain ⟨b, rfl, b1, b2⟩ := iI_of x2
  unfold m_X6_steep m_X7_steep
  rw [l4, x_below (by omega), bnd_some, ite01, m_four (by omega), bnd_some, ite01]
  by_cases q1 : 0 ≤ a ∧ a < 4
  · rw [if_pos q1, if_pos q1, l12, x_below (by omega), bnd_some, ite01, m_twelve (by omega), bnd_some, ite01]
    by_cases q2 : 0 ≤ b ∧ b < 12
    · obtain ⟨j, rfl⟩ : ∃ j : Nat, b = j := ⟨b.toNat, by omega⟩
      obtain ⟨i, rfl⟩ : ∃ i : Nat, a = i := ⟨a.toNat, by omega⟩
      rw [if_pos q2, if_pos q2, x_steep (by omega), bnd_some, m_steep (by omega), bnd_some]
      exact ⟨_, _, _, rfl, rfl, D, R, X, M⟩
    · rw [if_neg q2, if_neg q2]
      exact ⟨_, _, _, rfl, rfl, D, R, X, M⟩
  · rw [if_neg q1, if_neg q1]
    exact ⟨_, _, _, rfl, rfl, D, R, X, M⟩
theorem ag_seen : Ag_seen Rel := by
  rintro SX SM ⟨D, R, X, M⟩ x1 x2
  obtain ⟨a, rfl, a1, a2⟩ := iI_of x1
  obtain ⟨b, rfl, b1, b2⟩ := iI_of x2
  have e1 : gI SX 54 0 = iI (D 44 0) := X.1 44 0 (by decide)
  have e2 : gI SM 44 0 = iI (D 44 0) := M.1 44 0 (by decide)
  have r44 : 0 ≤ D 44 0 ∧ D 44 0 ≤ 8 := R 44 0
  unfold m_X6_seen m_X7_seen
  rw [l4, x_below (by omega), bnd_some, ite01, m_four (by omega), bnd_some, ite01]
  by_cases q1 : 0 ≤ a ∧ a < 4
  · rw [if_pos q1, if_pos q1, l12, x_below (by omega), bnd_some, ite01, m_twelve (by omega), bnd_some, ite01]
    by_cases q2 : 0 ≤ b ∧ b < 12
    · rw [if_pos q2, if_pos q2, e1, e2, l8]
      by_cases q3 : D 44 0 = 8
      · rw [lt_f (by omega), eq_t q3]
        exact ⟨_, _, _, rfl, rfl, D, R, X, M⟩
      · rw [lt_t (by omega), eq_f (by omega)]
        simp only [nm_eq, chk_t (a := D 44 0) (n := 8) (by omega), ix_iI (a := D 44 0) (by omega) (by omega), gI_sI_n (show (54 : Nat) ≠ 29 by decide), gI_sI_n (show (54 : Nat) ≠ 30 by decide), gI_sI_n (show (44 : Nat) ≠ 14 by decide), gI_sI_n (show (44 : Nat) ≠ 15 by decide), e1, e2, l1, iI_add, gI_sI_k, if_true]
        refine ⟨_, _, _, rfl, rfl, upD (upD (upD D 14 (D 44 0).toNat a) 15 (D 44 0).toNat b) 44 0 (D 44 0 + 1), ((R.up (show 0 ≤ a ∧ a ≤ 3 by omega)).up (show 0 ≤ b ∧ b ≤ 11 by omega)).up (show 0 ≤ D 44 0 + 1 ∧ D 44 0 + 1 ≤ 8 by omega), ?_, ?_⟩
        · exact ((X.up (k := 14) (D 44 0).toNat a (by decide)).up (k := 15) (D 44 0).toNat b (by decide)).up (k := 44) 0 (D 44 0 + 1) (by decide)
        · exact ((M.up (D 44 0).toNat a (by decide)).up (D 44 0).toNat b (by decide)).up 0 (D 44 0 + 1) (by decide)
    · rw [if_neg q2, if_neg q2]
      exact ⟨_, _, _, rfl, rfl, D, R, X, M⟩
  · rw [if_neg q1, if_neg q1]
    exact ⟨_, _, _, rfl, rfl, D, R, X, M⟩
