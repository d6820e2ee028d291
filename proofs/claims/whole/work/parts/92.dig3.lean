theorem x_chances {S : St} {D : Nat → Nat → Int} (R : Rg D) (X : RX S D) {c : Nat} {h : Int64} (hc : c < ND D) : ∃ T, m_X6_mixChances h (iI c) S = some (31 * (31 * (31 * (31 * h + lN (clV D c 2 (-1) 0)) + lN (clV D c 2 (-1) 1)) + lN (clV D c 2 3 0)) + lN (clV D c 2 3 1), T) ∧ RX T D := by
  obtain ⟨A, a1, a2⟩ := x_clear R X (c := c) (s := 2) (z := -1) (a := 0) hc (by omega) (by omega) (by omega)
  obtain ⟨B, b1, b2⟩ := x_clear R a2 (c := c) (s := 2) (z := -1) (a := 1) hc (by omega) (by omega) (by omega)
  obtain ⟨C, c1, c2⟩ := x_clear R b2 (c := c) (s := 2) (z := 3) (a := 0) hc (by omega) (by omega) (by omega)
  obtain ⟨E, e1, e2⟩ := x_clear R c2 (c := c) (s := 2) (z := 3) (a := 1) hc (by omega) (by omega) (by omega)
  refine ⟨E, ?_, e2⟩
  unfold m_X6_mixChances m_X6_mix
  rw [show m_X6_clear (iI (c : Int)) (2 : Int32) (-1 : Int32) (0 : Int32) S = _ from a1, bnd_some, bnd_some, show m_X6_clear (iI (c : Int)) (2 : Int32) (-1 : Int32) (1 : Int32) A = _ from b1, bnd_some, bnd_some, show m_X6_clear (iI (c : Int)) (2 : Int32) (3 : Int32) (0 : Int32) B = _ from c1, bnd_some, bnd_some, show m_X6_clear (iI (c : Int)) (2 : Int32) (3 : Int32) (1 : Int32) C = _ from e1, bnd_some, bnd_some]
