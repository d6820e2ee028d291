/-! digest: what each call inside answers -/
def celV (D : Nat → Nat → Int) (c k : Nat) : Int := if k = 0 then hD D c else if k = 1 then D 3 c else D 4 c
theorem x_cell {S : St} {D : Nat → Nat → Int} (X : RX S D) {c k : Nat} (hc : c < ND D) (hk : k < 3) : m_X6_cell (iI c) (iI k) S = some (iI (celV D c k), S) := by
  have hN := ND_le (D := D)
  have GXs := gxx X.1 X.2.2.1.1
  have e4 : gI S 25 c = iI (D 4 c) := X.1 4 _ (show c < 12 by omega)
  unfold m_X6_cell m_X1_heightOf m_X5_standingOn celV
  rw [x_isCell X (by omega), bnd_some, ite01, if_pos (by omega), l3, x_below (by omega), bnd_some, ite01, if_pos (by omega), chk_t (by omega), chk_t (by omega), chk_t (by omega), ix_n (by omega), GXs.2.2.1 c hc, GXs.2.2.2.2.1 c (by omega), e4]
  rcases (show k = 0 ∨ k = 1 ∨ k = 2 by omega) with rfl | rfl | rfl <;> rfl
theorem m_cellOf {S : St} {D : Nat → Nat → Int} (V : Vw S D) {c k : Nat} (hc : c < ND D) (hk : k < 3) : m_X7_cellOf (iI c) (iI k) S = some (iI (celV D c k), S) := by
  have hN := ND_le (D := D)
  have GVs := gvv V.1.1 V.2
  have f4 : gI S 4 c = iI (D 4 c) := V.1.1 4 _ (show c < 12 by omega)
  unfold m_X7_cellOf celV
  rw [chk_t (by omega), chk_t (by omega), chk_t (by omega), ix_n (by omega), GVs.2.2.1 c hc, GVs.2.2.2.1 c (by omega), f4]
  rcases (show k = 0 ∨ k = 1 ∨ k = 2 by omega) with rfl | rfl | rfl <;> rfl
theorem x_light {S : St} {D : Nat → Nat → Int} (X : RX S D) {c s : Nat} (hc : c < ND D) (hs : s < 4) : m_X6_light (iI c) (iI s) S = some (nI (btl (wD D) (hD D) (D 3) c s), S) := by
  have hN := ND_le (D := D)
  unfold m_X6_light
  rw [x_isCell X (by omega), bnd_some, ite01, if_pos (by omega), l4, x_below (by omega), bnd_some, ite01, if_pos (by omega), x_bitsOf X hc hs, bnd_some]
theorem x_hoursY {S : St} {D : Nat → Nat → Int} (X : RX S D) {c : Nat} (hc : c < ND D) : m_X6_hours (iI c) (-1 : Int32) S = some (iI (yD D c), S) := by
  have hN := ND_le (D := D)
  unfold m_X6_hours
  rw [x_isCell X (by omega), bnd_some, ite01, if_pos (by omega), if_pos rfl, if_pos rfl, x_yearOf X hc, bnd_some]
theorem x_shade {S : St} {D : Nat → Nat → Int} (R : Rg D) (X : RX S D) {c s j : Nat} (hc : c < ND D) (hs : s < 4) (hj : j < 12) : m_X6_shade (iI c) (iI s) (iI j) S = some (iI (shd (wD D) (hD D) (D 3) c (sdh j) (stp s j)), S) := by
  have hN := ND_le (D := D)
  unfold m_X6_shade
  rw [x_isCell X (by omega), bnd_some, ite01, if_pos (by omega), l4, x_below (by omega), bnd_some, ite01, if_pos (by omega), l12, x_below (by omega), bnd_some, ite01, if_pos (by omega), x_shader (gr_D R (by omega)) (gxx X.1 X.2.2.1.1) hc hs hj, bnd_some]
theorem x_shade03 {S : St} {D : Nat → Nat → Int} (R : Rg D) (X : RX S D) {c : Nat} (hc : c < ND D) : m_X6_shade (iI c) (0 : Int32) (3 : Int32) S = some (iI (shd (wD D) (hD D) (D 3) c (sdh 3) (stp 0 3)), S) := x_shade (s := 0) (j := 3) R X hc (by omega) (by omega)
theorem x_val1 {S : St} {D : Nat → Nat → Int} (X : RX S D) {c : Nat} (hc : c < ND D) : m_X6_value (iI c) (1 : Int32) S = some (iI (valD D c 1), S) := by
  have hN := ND_le (D := D)
  have e : m_X6_worthTo (iI 1) (iI (c : Int)) S = some (iI (valD D c 1), S) := x_worthTo (o := 1) X hc (by omega)
  unfold m_X6_value
  rw [x_isCell X (by omega), bnd_some, ite01, if_pos (by omega), l1, l4, x_below (by omega), bnd_some, ite01, if_pos (by omega), e, bnd_some]
