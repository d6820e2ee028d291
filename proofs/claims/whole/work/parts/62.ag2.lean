theorem eqm_t {α : Type} {x y : α} {a : Int} (h : a = -1) : (if iI a = (-1 : Int32) then x else y) = x := if_pos (by rw [h]; rfl)
theorem eqm_f {α : Type} {x y : α} {a : Int} (h : a ≠ -1 ∧ -2147483648 ≤ a ∧ a < 2147483648) : (if iI a = (-1 : Int32) then x else y) = y := eq_f (b := -1) (by omega)
theorem x_anew {S : St} {D : Nat → Nat → Int} (R : Rg D) (B : BaX S D) (I : ItX S D) (L : Lx S (D 1) (nD D)) : ∃ T, m_X6_measureAnew S = some T ∧ RX T D := by
  obtain ⟨T, h1, h2, h3⟩ := x_meas R B L
  refine ⟨sI (sI T 56 0 0) 57 0 0, ?_, ?_⟩
  · unfold m_X6_measureAnew
    rw [h1, bndV_some]
    rfl
  · have F : Fr [12, 13, 14, 56, 57] S (sI (sI T 56 0 0) 57 0 0) := ((h2.mono (by decide)).set (by decide)).set (by decide)
    have F2 : Fr [56, 57] T (sI (sI T 56 0 0) 57 0 0) := (Fr.rf.set (by decide)).set (by decide)
    refine ⟨B.fr F (by decide), I.fr F (by decide), ⟨L.fr F (by decide), h3.fr F2 (by decide)⟩, Or.inl ?_, Or.inl ?_⟩
    · rw [gI_sI_n (by decide), gI_sI_k, if_pos rfl]; rfl
    · rw [gI_sI_k, if_pos rfl]; rfl
theorem ag_stand : Ag_stand Rel := by
  rintro SX SM ⟨D, R, X, M⟩ x1 x2
  obtain ⟨a, rfl, a1, a2⟩ := iI_of x1
  obtain ⟨b, rfl, b1, b2⟩ := iI_of x2
  unfold m_X6_stand m_X7_stand
  rw [l12, x_below (by omega), bnd_some, ite01, m_twelve (by omega), bnd_some, ite01]
  by_cases q1 : 0 ≤ a ∧ a < 12
  · rw [if_pos q1, if_pos q1, l21, x_below (by omega), bnd_some, ite01, m_inN (n := 21) l20 (by omega), bnd_some, ite01]
    by_cases q2 : 0 ≤ b ∧ b < 21
    · rw [if_pos q2, if_pos q2]
      unfold m_X5_build
      simp only [nm_eq, chk_t (a := a) (n := 12) (by omega), ix_iI (a := a) (by omega) (by omega), bnd_some]
      have e1 : gI SX 10 a.toNat = iI (D 3 a.toNat) := X.1 3 _ (show a.toNat < 12 by omega)
      have e2 : gI SM 3 a.toNat = iI (D 3 a.toNat) := M.1 3 _ (show a.toNat < 12 by omega)
      rw [e1, e2]
      have R2 : Rg (upD D 3 a.toNat b) := R.up (show 0 ≤ b ∧ b ≤ 20 by omega)
      have en : nD (upD D 3 a.toNat b) = nD D := rfl
      have F : Fr [10] SX (sI SX 10 a.toNat (iI b)) := Fr.rf.set (by decide)
      have I2 : ItX (sI SX 10 a.toNat (iI b)) (upD D 3 a.toNat b) := ItX.cong (D := D) ⟨fun s hs => by rw [gI_sI_n (by decide)]; exact X.2.1.1 s hs, fun s hs hq i hi => by rw [gI_sI_n (by decide)]; exact X.2.1.2 s hs hq i hi⟩ ⟨rfl, rfl, rfl⟩
      obtain ⟨T, t1, t2⟩ := x_anew (S := sI SX 10 a.toNat (iI b)) R2 (X.1.up (k := 3) (by decide) a.toNat b) I2 (X.2.2.1.1.fr F (by decide))
      rw [t1, bndV_some]
      exact ⟨_, _, _, rfl, rfl, upD D 3 a.toNat b, R2, t2, M.up a.toNat b (by decide)⟩
    · rw [if_neg q2, if_neg q2]
      exact ⟨_, _, _, rfl, rfl, D, R, X, M⟩
  · rw [if_neg q1, if_neg q1]
    exact ⟨_, _, _, rfl, rfl, D, R, X, M⟩
theorem ag_days : Ag_days Rel := by
  rintro SX SM ⟨D, R, X, M⟩ x1 x2
  obtain ⟨a, rfl, a1, a2⟩ := iI_of x1
  obtain ⟨b, rfl, b1, b2⟩ := iI_of x2
  unfold m_X6_days m_X7_days
  rw [l4, x_below (by omega), bnd_some, ite01, m_four (by omega), bnd_some, ite01]
  by_cases q1 : 0 ≤ a ∧ a < 4
  · rw [if_pos q1, if_pos q1, l100, x_below (by omega), bnd_some, ite01, m_inN (n := 100) l99 (by omega), bnd_some, ite01]
    by_cases q2 : 0 ≤ b ∧ b < 100
    · rw [if_pos q2, if_pos q2]
      unfold m_X5_lengthen
      simp only [nm_eq, chk_t (a := a) (n := 4) (by omega), ix_iI (a := a) (by omega) (by omega), bnd_some]
      have e1 : gI SX 11 a.toNat = iI (D 5 a.toNat) := X.1 5 _ (show a.toNat < 4 by omega)
      have e2 : gI SM 5 a.toNat = iI (D 5 a.toNat) := M.1 5 _ (show a.toNat < 4 by omega)
      rw [e1, e2]
      have R2 : Rg (upD D 5 a.toNat b) := R.up (show 0 ≤ b ∧ b ≤ 99 by omega)
      have F : Fr [11] SX (sI SX 11 a.toNat (iI b)) := Fr.rf.set (by decide)
      have I2 : ItX (sI SX 11 a.toNat (iI b)) (upD D 5 a.toNat b) := ItX.cong (D := D) ⟨fun s hs => by rw [gI_sI_n (by decide)]; exact X.2.1.1 s hs, fun s hs hq i hi => by rw [gI_sI_n (by decide)]; exact X.2.1.2 s hs hq i hi⟩ ⟨rfl, rfl, rfl⟩
      obtain ⟨T, t1, t2⟩ := x_anew (S := sI SX 11 a.toNat (iI b)) R2 (X.1.up (k := 5) (by decide) a.toNat b) I2 (X.2.2.1.1.fr F (by decide))
      rw [t1, bndV_some]
      exact ⟨_, _, _, rfl, rfl, upD D 5 a.toNat b, R2, t2, M.up a.toNat b (by decide)⟩
    · rw [if_neg q2, if_neg q2]
      exact ⟨_, _, _, rfl, rfl, D, R, X, M⟩
  · rw [if_neg q1, if_neg q1]
    exact ⟨_, _, _, rfl, rfl, D, R, X, M⟩
theorem ag_type : Ag_type Rel := by
  rintro SX SM ⟨D, R, X, M⟩ x1
  obtain ⟨a, rfl, a1, a2⟩ := iI_of x1
  have e1 : gI SX 40 0 = iI (D 40 0) := X.1 40 0 (by decide)
  have e2 : gI SM 40 0 = iI (D 40 0) := M.1 40 0 (by decide)
  have r40 : 0 ≤ D 40 0 ∧ D 40 0 ≤ 20 := R 40 0
  unfold m_X6_type m_X7_type
  rw [l256, x_below (by omega), bnd_some, ite01, m_inN (n := 256) l255 (by omega), bnd_some, ite01]
  by_cases q1 : 0 ≤ a ∧ a < 256
  · rw [if_pos q1, if_pos q1, e2]
    by_cases q2 : D 40 0 = 20
    · have ef : m_X1_isFull SX = some (1, SX) := by
        unfold m_X1_isFull
        rw [e1, l20, lt_f (by omega)]
      rw [ef, bnd_some, if_neg (by decide), l20, eq_t q2]
      exact ⟨_, _, _, rfl, rfl, D, R, X, M⟩
    · have ef : m_X1_isFull SX = some (0, SX) := by
        unfold m_X1_isFull
        rw [e1, l20, lt_t (by omega)]
      have R2 : Rg (upD (upD D 1 (D 40 0).toNat a) 40 0 (D 40 0 + 1)) := (R.up (show 0 ≤ a ∧ a ≤ 255 by omega)).up (show 0 ≤ D 40 0 + 1 ∧ D 40 0 + 1 ≤ 20 by omega)
      have B2 : BaX (sI (sI SX 7 (D 40 0).toNat (iI a)) 40 0 (iI (D 40 0 + 1))) (upD (upD D 1 (D 40 0).toNat a) 40 0 (D 40 0 + 1)) := (X.1.up (k := 1) (by decide) (D 40 0).toNat a).up (k := 40) (by decide) 0 (D 40 0 + 1)
      have I2 : ItX (sI (sI SX 7 (D 40 0).toNat (iI a)) 40 0 (iI (D 40 0 + 1))) (upD (upD D 1 (D 40 0).toNat a) 40 0 (D 40 0 + 1)) := ItX.cong (D := D) ⟨fun s hs => by rw [gI_sI_n (by decide), gI_sI_n (by decide)]; exact X.2.1.1 s hs, fun s hs hq i hi => by rw [gI_sI_n (by decide), gI_sI_n (by decide)]; exact X.2.1.2 s hs hq i hi⟩ ⟨rfl, rfl, rfl⟩
      obtain ⟨T, s1, s2, s3⟩ := x_survey (txx R2 B2)
      obtain ⟨U, u1, u2⟩ := x_anew R2 (B2.fr s2 (by decide)) (I2.fr s2 (by decide)) s3
      have ea : m_X1_append (iI a) SX = some T := by
        unfold m_X1_append
        rw [ef, bnd_some, if_pos rfl, e1]
        simp only [nm_eq, chk_t (a := D 40 0) (n := 20) (by omega), ix_iI (a := D 40 0) (by omega) (by omega), gI_sI_n (show (40 : Nat) ≠ 7 by decide), e1, l1, iI_add]
        rw [s1, bndV_some]
      rw [ef, bnd_some, if_pos rfl, ea, bndV_some, u1, bndV_some, l20, eq_f (by omega)]
      unfold m_X1_bytes
      have e3 : gI U 40 0 = iI (D 40 0 + 1) := by
        have := u2.1 40 0 (by decide)
        rw [upD_s] at this
        exact this
      rw [bnd_some, e3]
      simp only [nm_eq, chk_t (a := D 40 0) (n := 20) (by omega), ix_iI (a := D 40 0) (by omega) (by omega), gI_sI_n (show (40 : Nat) ≠ 1 by decide), e2, l1, iI_add, gI_sI_k, if_true]
      exact ⟨_, _, _, rfl, rfl, _, R2, u2, (M.up (k := 1) (D 40 0).toNat a (by decide)).up 0 (D 40 0 + 1) (by decide)⟩
  · rw [if_neg q1, if_neg q1]
    exact ⟨_, _, _, rfl, rfl, D, R, X, M⟩
theorem ag_wipe : Ag_wipe Rel := by
  rintro SX SM ⟨D, R, X, M⟩
  have e1 : gI SX 40 0 = iI (D 40 0) := X.1 40 0 (by decide)
  have e2 : gI SM 40 0 = iI (D 40 0) := M.1 40 0 (by decide)
  have R2 : Rg (upD D 40 0 0) := R.up (by decide)
  have B2 : BaX (sI SX 40 0 (iI 0)) (upD D 40 0 0) := X.1.up (k := 40) (by decide) 0 0
  have I2 : ItX (sI SX 40 0 (iI 0)) (upD D 40 0 0) := ItX.cong (D := D) ⟨fun s hs => by rw [gI_sI_n (by decide)]; exact X.2.1.1 s hs, fun s hs hq i hi => by rw [gI_sI_n (by decide)]; exact X.2.1.2 s hs hq i hi⟩ ⟨rfl, rfl, rfl⟩
  obtain ⟨T, s1, s2, s3⟩ := x_survey (txx R2 B2)
  obtain ⟨U, u1, u2⟩ := x_anew R2 (B2.fr s2 (by decide)) (I2.fr s2 (by decide)) s3
  unfold m_X6_wipe m_X7_wipe m_X1_bytes m_X1_empty
  rw [bnd_some, e1, e2]
  simp only [nm_eq, iI_0]
  rw [s1, bndV_some, bndV_some, u1, bndV_some]
  exact ⟨_, _, _, rfl, rfl, _, R2, u2, M.up 0 0 (by decide)⟩
theorem ag_cell : Ag_cell Rel := by
  rintro SX SM ⟨D, R, X, M⟩ x1 x2
  obtain ⟨a, rfl, a1, a2⟩ := iI_of x1
  obtain ⟨b, rfl, b1, b2⟩ := iI_of x2
  obtain ⟨T, t1, V⟩ := m_isCell R M (a := a) (by omega)
  have hN := ND_le (D := D)
  unfold m_X6_cell m_X7_cell
  rw [x_isCell X (by omega), bnd_some, ite01, t1, bnd_some, ite01]
  by_cases q1 : 0 ≤ a ∧ a < ND D
  · rw [if_pos q1, if_pos q1, l3, x_below (by omega), bnd_some, ite01, m_inN (n := 3) l2 (by omega), bnd_some, ite01]
    by_cases q2 : 0 ≤ b ∧ b < 3
    · obtain ⟨c, rfl⟩ : ∃ c : Nat, a = c := ⟨a.toNat, by omega⟩
      have hG := gr_D R (by omega)
      have GXs := gxx X.1 X.2.2.1.1
      have GVs := gvv V.1.1 V.2
      rw [if_pos q2, if_pos q2]
      unfold m_X7_cellOf m_X1_heightOf m_X5_standingOn
      simp only [l1, chk_t (a := (c : Int)) (n := 12) (by omega), chk_t (a := (c : Int)) (n := 16) (by omega), ix_n (c := c) (by omega)]
      have e4 : gI SX 25 c = iI (D 4 c) := X.1 4 _ (show c < 12 by omega)
      have f4 : gI T 4 c = iI (D 4 c) := V.1.1 4 _ (show c < 12 by omega)
      rw [GXs.2.2.1 c (by omega), GXs.2.2.2.2.1 c (by omega), GVs.2.2.1 c (by omega), GVs.2.2.2.1 c (by omega), e4, f4]
      rcases (show b = 0 ∨ b = 1 ∨ b = 2 by omega) with rfl | rfl | rfl
      · exact ⟨_, _, _, rfl, rfl, D, R, X, V.1⟩
      · exact ⟨_, _, _, rfl, rfl, D, R, X, V.1⟩
      · exact ⟨_, _, _, rfl, rfl, D, R, X, V.1⟩
    · rw [if_neg q2, if_neg q2]
      exact ⟨_, _, _, rfl, rfl, D, R, X, V.1⟩
  · rw [if_neg q1, if_neg q1]
    exact ⟨_, _, _, rfl, rfl, D, R, X, V.1⟩
theorem ag_shade : Ag_shade Rel := by
  rintro SX SM ⟨D, R, X, M⟩ x1 x2 x3
  obtain ⟨a, rfl, a1, a2⟩ := iI_of x1
  obtain ⟨b, rfl, b1, b2⟩ := iI_of x2
  obtain ⟨v, rfl, v1, v2⟩ := iI_of x3
  obtain ⟨T, t1, V⟩ := m_isCell R M (a := a) (by omega)
  have hN := ND_le (D := D)
  unfold m_X6_shade m_X7_shade
  rw [x_isCell X (by omega), bnd_some, ite01, t1, bnd_some, ite01]
  by_cases q1 : 0 ≤ a ∧ a < ND D
  · rw [if_pos q1, if_pos q1, l4, x_below (by omega), bnd_some, ite01, m_four (by omega), bnd_some, ite01]
    by_cases q2 : 0 ≤ b ∧ b < 4
    · rw [if_pos q2, if_pos q2, l12, x_below (by omega), bnd_some, ite01, m_twelve (by omega), bnd_some, ite01]
      by_cases q3 : 0 ≤ v ∧ v < 12
      · obtain ⟨c, rfl⟩ : ∃ c : Nat, a = c := ⟨a.toNat, by omega⟩
        obtain ⟨s, rfl⟩ : ∃ s : Nat, b = s := ⟨b.toNat, by omega⟩
        obtain ⟨j, rfl⟩ : ∃ j : Nat, v = j := ⟨v.toNat, by omega⟩
        rw [if_pos q3, if_pos q3, x_shader (gr_D R (by omega)) (gxx X.1 X.2.2.1.1) (by omega) (by omega) (by omega), bnd_some, m_shader (gr_D R (by omega)) (gvv V.1.1 V.2) (by omega) (by omega) (by omega), bnd_some]
        exact ⟨_, _, _, rfl, rfl, D, R, X, V.1⟩
      · rw [if_neg q3, if_neg q3]
        exact ⟨_, _, _, rfl, rfl, D, R, X, V.1⟩
    · rw [if_neg q2, if_neg q2]
      exact ⟨_, _, _, rfl, rfl, D, R, X, V.1⟩
  · rw [if_neg q1, if_neg q1]
    exact ⟨_, _, _, rfl, rfl, D, R, X, V.1⟩
theorem x_bitsOf {S : St} {D : Nat → Nat → Int} (X : RX S D) {c s : Nat} (hc : c < ND D) (hs : s < 4) : m_X5_bitsOf (iI c) (iI s) S = some (nI (btl (wD D) (hD D) (D 3) c s), S) := by
  have hN := ND_le (D := D)
  unfold m_X5_bitsOf
  rw [l4, iI_mul, iI_add, show ((c : Int) * 4 + (s : Int)) = ((c * 4 + s : Nat) : Int) by push_cast; rfl, chk_t (by omega), ix_n (by omega), (X.2.2.1.2.1 c hc s hs).1]
theorem x_hoursOf {S : St} {D : Nat → Nat → Int} (X : RX S D) {c s : Nat} (hc : c < ND D) (hs : s < 4) : m_X5_hoursOf (iI c) (iI s) S = some (nI (hr (wD D) (hD D) (D 3) c s), S) := by
  have hN := ND_le (D := D)
  unfold m_X5_hoursOf
  rw [l4, iI_mul, iI_add, show ((c : Int) * 4 + (s : Int)) = ((c * 4 + s : Nat) : Int) by push_cast; rfl, chk_t (by omega), ix_n (by omega), (X.2.2.1.2.1 c hc s hs).2]
theorem x_yearOf {S : St} {D : Nat → Nat → Int} (X : RX S D) {c : Nat} (hc : c < ND D) : m_X5_yearOf (iI c) S = some (iI (yD D c), S) := by
  have hN := ND_le (D := D)
  unfold m_X5_yearOf
  rw [chk_t (by omega), ix_n (by omega), X.2.2.1.2.2 c hc]
  rfl
theorem ag_light : Ag_light Rel := by
  rintro SX SM ⟨D, R, X, M⟩ x1 x2
  obtain ⟨a, rfl, a1, a2⟩ := iI_of x1
  obtain ⟨b, rfl, b1, b2⟩ := iI_of x2
  obtain ⟨T, t1, V⟩ := m_isCell R M (a := a) (by omega)
  have hN := ND_le (D := D)
  unfold m_X6_light m_X7_light
  rw [x_isCell X (by omega), bnd_some, ite01, t1, bnd_some, ite01]
  by_cases q1 : 0 ≤ a ∧ a < ND D
  · rw [if_pos q1, if_pos q1, l4, x_below (by omega), bnd_some, ite01, m_four (by omega), bnd_some, ite01]
    by_cases q2 : 0 ≤ b ∧ b < 4
    · obtain ⟨c, rfl⟩ : ∃ c : Nat, a = c := ⟨a.toNat, by omega⟩
      obtain ⟨s, rfl⟩ : ∃ s : Nat, b = s := ⟨b.toNat, by omega⟩
      rw [if_pos q2, if_pos q2, x_bitsOf X (by omega) (by omega), bnd_some, m_light (gr_D R (by omega)) (gvv V.1.1 V.2) (by omega) (by omega), bnd_some]
      exact ⟨_, _, _, rfl, rfl, D, R, X, V.1⟩
    · rw [if_neg q2, if_neg q2]
      exact ⟨_, _, _, rfl, rfl, D, R, X, V.1⟩
  · rw [if_neg q1, if_neg q1]
    exact ⟨_, _, _, rfl, rfl, D, R, X, V.1⟩
theorem m_hrs {S : St} {D : Nat → Nat → Int} (R : Rg D) (V : Vw S D) {c s : Nat} (hc : c < ND D) (hs : s < 4) {ζ : Type} {k : Int32 → St → Option ζ} : (bnd (m_X7_lightOf (iI c) (iI s) S) fun r2 S1 => bnd (m_X7_ones r2 S1) k) = k (nI (hr (wD D) (hD D) (D 3) c s)) S := by
  have := btl_lt (wD D) (hD D) (D 3) c s
  rw [m_light (gr_D R (by omega)) (gvv V.1.1 V.2) hc hs, bnd_some, m_ones (by omega), bnd_some, btl_pc]
theorem ag_hours : Ag_hours Rel := by
  rintro SX SM ⟨D, R, X, M⟩ x1 x2
  obtain ⟨a, rfl, a1, a2⟩ := iI_of x1
  obtain ⟨b, rfl, b1, b2⟩ := iI_of x2
  obtain ⟨T, t1, V⟩ := m_isCell R M (a := a) (by omega)
  have hN := ND_le (D := D)
  unfold m_X6_hours m_X7_hours
  rw [x_isCell X (by omega), bnd_some, ite01, t1, bnd_some, ite01]
  by_cases q1 : 0 ≤ a ∧ a < ND D
  · rw [if_pos q1, if_pos q1]
    obtain ⟨c, rfl⟩ : ∃ c : Nat, a = c := ⟨a.toNat, by omega⟩
    by_cases q0 : b = -1
    · rw [eqm_t q0, eqm_t q0, eqm_t q0]
      unfold m_X7_hoursOf
      rw [eqm_t q0, x_yearOf X (by omega), bnd_some, m_year (gr_D R (by omega)) (gvv V.1.1 V.2) (by omega), bnd_some, bnd_some]
      exact ⟨_, _, _, rfl, rfl, D, R, X, V.1⟩
    · have q0' : b ≠ -1 ∧ -2147483648 ≤ b ∧ b < 2147483648 := by omega
      rw [eqm_f q0', eqm_f q0', l4, x_below (by omega), bnd_some, ite01, m_four (by omega), bnd_some, ite01]
      by_cases q2 : 0 ≤ b ∧ b < 4
      · obtain ⟨s, rfl⟩ : ∃ s : Nat, b = s := ⟨b.toNat, by omega⟩
        unfold m_X7_hoursOf
        rw [if_pos q2, if_pos q2, eqm_f q0', eqm_f q0', x_hoursOf X (by omega) (by omega), bnd_some, m_hrs R V (by omega) (by omega), bnd_some]
        exact ⟨_, _, _, rfl, rfl, D, R, X, V.1⟩
      · rw [if_neg q2, if_neg q2]
        exact ⟨_, _, _, rfl, rfl, D, R, X, V.1⟩
  · rw [if_neg q1, if_neg q1]
    exact ⟨_, _, _, rfl, rfl, D, R, X, V.1⟩
