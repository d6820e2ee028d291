theorem m_agQ {S : St} {D : Nat → Nat → Int} (R : Rg D) (M : RM_ S D) : ∃ T, m_X7_again (0 : Int32) (900 : Int32) (0 : Int32) S = some (iI (agQ D), T) ∧ Vw T D := by
  have hN := ND_le (D := D)
  obtain ⟨T, t1, V⟩ := m_isCell R M (a := 0) (by omega)
  have key : ∃ T, m_X7_again (iI 0) (iI 900) (iI 0) S = some (iI (agQ D), T) ∧ Vw T D := by
    unfold m_X7_again agQ
    rw [t1, bnd_some, ite01]
    by_cases q : 0 < ND D
    · obtain ⟨T2, g1, g2⟩ := m_again R V.1 (c := 0) (z := 900) (a := 0) q (by omega) (by omega)
      refine ⟨T2, ?_, g2⟩
      rw [if_pos (by omega), m_inN (n := 100000) l99999 (by omega), bnd_some, ite01, if_pos (by omega), m_inN (n := 2) l1 (by omega), bnd_some, ite01, if_pos (by omega), show m_X7_againOf (iI 0) (iI 900) (iI 0) T = _ from g1, bnd_some, if_pos q]
    · refine ⟨T, ?_, V⟩
      rw [if_neg (by omega), if_neg q]
      rfl
  exact key
theorem m_shade03 {S : St} {D : Nat → Nat → Int} (R : Rg D) (V : Vw S D) {c : Nat} (hc : c < ND D) : m_X7_shadeOf (iI c) (0 : Int32) (3 : Int32) S = some (iI (shd (wD D) (hD D) (D 3) c (sdh 3) (stp 0 3)), S) := m_shader (s := 0) (j := 3) (gr_D R (by omega)) (gvv V.1.1 V.2) hc (by omega) (by omega)
theorem m_val1 {S : St} {D : Nat → Nat → Int} (R : Rg D) (V : Vw S D) {c : Nat} (hc : c < ND D) : m_X7_valueOf (iI c) (1 : Int32) S = some (iI (valD D c 1), S) := m_valueOf (o := 1) R V hc (by omega)
theorem m_dcell {S : St} {D : Nat → Nat → Int} (R : Rg D) (V : Vw S D) {c : Nat} {h : Int64} (hc : c < ND D) {k : Int64 → St → Option (Int64 × St)} {rc : Int64 → Int32 → St → Option (Int64 × St)} : ∃ T, b_X7_digest_45 k rc h (iI c) S = rc (d11 D c h) (iI ((c + 1 : Nat) : Int)) T ∧ Vw T D := by
  have hN := ND_le (D := D)
  unfold b_X7_digest_45
  rw [V.cells, lt_t (by omega)]
  refine it2_inv (fun i p x T => p = fo (fun k => (iI (celV D c k)).toInt64) h i ∧ x = iI (i : Int) ∧ T = S) 3 (fun q => ∃ T, q = rc (d11 D c h) (iI ((c + 1 : Nat) : Int)) T ∧ Vw T D) ?_ ?_ 5000 0 _ _ S (by omega) (by omega) ⟨rfl, rfl, rfl⟩
  · rintro i p x T hi ⟨rfl, rfl, rfl⟩ rec
    refine ⟨_, _, T, ⟨rfl, rfl, rfl⟩, ?_⟩
    unfold b_X7_digest_56
    rw [l3, lt_t (by omega), m_cellOf V hc hi, bnd_some, nm_eq, show iI (i : Int) + 1 = iI ((i + 1 : Nat) : Int) from iI_add _ 1]
    rfl
  · rintro p x T ⟨rfl, rfl, rfl⟩ rec
    unfold b_X7_digest_56
    rw [l3, lt_f (by omega)]
    dsimp only
    refine it2_inv (fun i p x U => p = fo (fun s => (nI (btl (wD D) (hD D) (D 3) c s)).toInt64) (fo (fun k => (iI (celV D c k)).toInt64) h 3) i ∧ x = iI (i : Int) ∧ U = T) 4 (fun q => ∃ T, q = rc (d11 D c h) (iI ((c + 1 : Nat) : Int)) T ∧ Vw T D) ?_ ?_ 5000 0 _ _ T (by omega) (by omega) ⟨rfl, rfl, rfl⟩
    · rintro i p x U hi ⟨rfl, rfl, rfl⟩ rec
      refine ⟨_, _, U, ⟨rfl, rfl, rfl⟩, ?_⟩
      unfold b_X7_digest_86
      rw [l4, lt_t (by omega), m_light (gr_D R (by omega)) (gvv V.1.1 V.2) hc hi, bnd_some, nm_eq, show iI (i : Int) + 1 = iI ((i + 1 : Nat) : Int) from iI_add _ 1]
      rfl
    · rintro p x U ⟨rfl, rfl, rfl⟩ rec
      obtain ⟨A, a1, a2⟩ := m_highest R V (c := c) (z := 500) (by omega) (by omega)
      obtain ⟨B, b1, b2⟩ := m_set R a2.1 (a := (c : Int)) (Or.inr (by omega))
      obtain ⟨C, c1, c2⟩ := m_clear R b2 (c := c) (s := 2) (z := -1) (a := 0) hc (by omega) (by omega) (by omega)
      obtain ⟨E, e1, e2⟩ := m_clear R c2 (c := c) (s := 2) (z := -1) (a := 1) hc (by omega) (by omega) (by omega)
      obtain ⟨F, f1, f2⟩ := m_clear R e2 (c := c) (s := 2) (z := 3) (a := 0) hc (by omega) (by omega) (by omega)
      obtain ⟨H, g1, g2⟩ := m_clear R f2 (c := c) (s := 2) (z := 3) (a := 1) hc (by omega) (by omega) (by omega)
      refine ⟨H, ?_, g2⟩
      unfold b_X7_digest_86
      rw [l4, lt_f (by omega)]
      dsimp only
      rw [m_year (gr_D R (by omega)) (gvv V.1.1 V.2) hc, bnd_some, nm_eq, show m_X7_shadeOf (iI (c : Int)) (0 : Int32) (iI 3) U = _ from m_shade03 R V hc, bnd_some, nm_eq, m_val1 R V hc, bnd_some, nm_eq, show m_X7_highestOf (iI (c : Int)) (500 : Int32) U = _ from a1, bnd_some, nm_eq, b1, bnd_some, nm_eq, show m_X7_clearOf (iI (c : Int)) (2 : Int32) (-1 : Int32) (0 : Int32) B = _ from c1, bnd_some, nm_eq, show m_X7_clearOf (iI (c : Int)) (2 : Int32) (-1 : Int32) (1 : Int32) C = _ from e1, bnd_some, nm_eq, show m_X7_clearOf (iI (c : Int)) (2 : Int32) (iI 3) (0 : Int32) E = _ from f1, bnd_some, nm_eq, show m_X7_clearOf (iI (c : Int)) (2 : Int32) (iI 3) (1 : Int32) F = _ from g1, bnd_some, nm_eq, show iI (c : Int) + 1 = iI ((c + 1 : Nat) : Int) from iI_add _ 1]
      rfl
