theorem m_no2 {S : St} : m_X7_no (-2 : Int32) S = some ((-9223372036854775806 : Int64), S) := by
  unfold m_X7_no
  rw [show ((-9223372036854775808 : Int64) - ((-2 : Int32)).toInt64) = (-9223372036854775806 : Int64) by decide +kernel]
theorem m_in13 {S : St} {a : Int} (h : -2147483648 ≤ a ∧ a < 2147483648) : m_X7_in (iI a) (-1 : Int32) (12 : Int32) S = some (if -1 ≤ a ∧ a ≤ 12 then 1 else 0, S) := by
  unfold m_X7_in
  rw [lm1, l12, if_lt (by omega), if_lt (by omega)]
  by_cases q : a < -1
  · rw [if_pos q, if_neg (by omega)]
  · rw [if_neg q]
    by_cases q2 : 12 < a
    · rw [if_pos q2, if_neg (by omega)]
    · rw [if_neg q2, if_pos (by omega)]
theorem ag_clear : Ag_clear Rel := by
  rintro SX SM ⟨D, R, X, M⟩ x1 x2 x3 x4
  obtain ⟨b, rfl, b1, b2⟩ := iI_of x1
  obtain ⟨s, rfl, s1, s2⟩ := iI_of x2
  obtain ⟨z, rfl, z1, z2⟩ := iI_of x3
  obtain ⟨a, rfl, a1, a2⟩ := iI_of x4
  have hN := ND_le (D := D)
  obtain ⟨T, t1, V⟩ := m_isCell R M (a := b) (by omega)
  unfold m_X7_clear
  rw [t1, bnd_some, ite01]
  by_cases q1 : 0 ≤ b ∧ b < ND D
  · rw [if_pos q1, m_four (by omega), bnd_some, ite01]
    by_cases q2 : 0 ≤ s ∧ s < 4
    · rw [if_pos q2, m_in13 (by omega), bnd_some, ite01]
      by_cases q3 : -1 ≤ z ∧ z ≤ 12
      · rw [if_pos q3, m_inN (n := 2) l1 (by omega), bnd_some, ite01]
        by_cases q4 : 0 ≤ a ∧ a < 2
        · obtain ⟨c, rfl⟩ : ∃ c : Nat, b = c := ⟨b.toNat, by omega⟩
          obtain ⟨u, rfl⟩ : ∃ c : Nat, s = c := ⟨s.toNat, by omega⟩
          obtain ⟨T1, f1, f2⟩ := x_clear R X (c := c) (s := u) (by omega) (by omega) q3 q4
          obtain ⟨T2, g1, g2⟩ := m_clear R V (c := c) (s := u) (by omega) (by omega) q3 q4
          rw [if_pos q4, f1, g1, bnd_some]
          exact ⟨_, _, _, rfl, rfl, D, R, f2, g2.1⟩
        · refine ⟨-9223372036854775806, SX, T, ?_, by rw [if_neg q4, m_no2, bnd_some], D, R, X, V.1⟩
          unfold m_X6_clear
          rw [x_isCell X (by omega), bnd_some, ite01, if_pos q1, l4, x_below (by omega), bnd_some, ite01, if_pos q2]
          by_cases e : z = -1
          · rw [eqm_t e, l2, x_below (by omega), bnd_some, ite01, if_neg q4]
          · rw [eqm_f (by omega), l13, x_below (by omega), bnd_some, ite01, if_pos (by omega), l2, x_below (by omega), bnd_some, ite01, if_neg q4]
      · refine ⟨-9223372036854775806, SX, T, ?_, by rw [if_neg q3, m_no2, bnd_some], D, R, X, V.1⟩
        unfold m_X6_clear
        rw [x_isCell X (by omega), bnd_some, ite01, if_pos q1, l4, x_below (by omega), bnd_some, ite01, if_pos q2, eqm_f (by omega), l13, x_below (by omega), bnd_some, ite01, if_neg (by omega)]
    · refine ⟨-9223372036854775806, SX, T, ?_, by rw [if_neg q2, m_no2, bnd_some], D, R, X, V.1⟩
      unfold m_X6_clear
      rw [x_isCell X (by omega), bnd_some, ite01, if_pos q1, l4, x_below (by omega), bnd_some, ite01, if_neg q2]
  · refine ⟨-9223372036854775806, SX, T, ?_, by rw [if_neg q1, m_no2, bnd_some], D, R, X, V.1⟩
    unfold m_X6_clear
    rw [x_isCell X (by omega), bnd_some, ite01, if_neg q1]
