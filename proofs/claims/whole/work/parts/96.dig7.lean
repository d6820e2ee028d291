theorem m_tail {S : St} {D : Nat → Nat → Int} (R : Rg D) (M : RM_ S D) {h : Int64} : ∃ T, (bnd (m_X7_partsOf (0 : Int32) S) fun r52 S51 => nm ((((31 : Int64) * h) + (r52).toInt64)) fun y53 => bnd (m_X7_partsOf (1 : Int32) S51) fun r55 S54 => nm ((((31 : Int64) * y53) + (r55).toInt64)) fun y56 => bnd (m_X7_again (0 : Int32) (900 : Int32) (0 : Int32) S54) fun r58 S57 => nm ((((31 : Int64) * y56) + (r58).toInt64)) fun y59 => bnd (m_X7_changesOf (0 : Int32) S57) fun r61 S60 => nm ((((31 : Int64) * y59) + (r61).toInt64)) fun y62 => bnd (m_X7_changesOf (1 : Int32) S60) fun r64 S63 => nm ((((31 : Int64) * y62) + (r64).toInt64)) fun y65 => bnd (m_X7_setOf (-1 : Int32) S63) fun r67 S66 => nm ((((31 : Int64) * y65) + (r67).toInt64)) fun y68 => bnd (m_X7_whoseOf (0 : Int32) S66) fun r70 S69 => nm ((((31 : Int64) * y68) + (r70).toInt64)) fun y71 => bnd (m_X7_whoseOf (1 : Int32) S69) fun r73 S72 => some ((((31 : Int64) * y71) + (r73).toInt64), S72)) = some (tl8 D h, T) ∧ RM_ T D := by
  obtain ⟨A, a1, a2⟩ := m_parts R M (a := 0) (by omega)
  obtain ⟨B, b1, b2⟩ := m_parts R a2.1 (a := 1) (by omega)
  obtain ⟨C, c1, c2⟩ := m_agQ R b2.1
  obtain ⟨E, e1, _, e2⟩ := m_changes R c2.1 (w := 0) (by omega)
  obtain ⟨F, f1, _, f2⟩ := m_changes R e2.1 (w := 1) (by omega)
  obtain ⟨G, g1, g2⟩ := m_set R f2.1 (a := -1) (Or.inl rfl)
  obtain ⟨H, h1, _, h2⟩ := m_whose R g2.1 (w := 0) (by omega)
  obtain ⟨K, k1, _, k2⟩ := m_whose R h2.1 (w := 1) (by omega)
  refine ⟨K, ?_, k2.1⟩
  rw [show m_X7_partsOf (0 : Int32) S = _ from a1, bnd_some, nm_eq, show m_X7_partsOf (1 : Int32) A = _ from b1, bnd_some, nm_eq, c1, bnd_some, nm_eq, show m_X7_changesOf (0 : Int32) C = _ from e1, bnd_some, nm_eq, show m_X7_changesOf (1 : Int32) E = _ from f1, bnd_some, nm_eq, show m_X7_setOf (-1 : Int32) F = _ from g1, bnd_some, nm_eq, show m_X7_whoseOf (0 : Int32) G = _ from h1, bnd_some, nm_eq, show m_X7_whoseOf (1 : Int32) H = _ from k1, bnd_some]
  rfl
theorem m_digest {S : St} {D : Nat → Nat → Int} (R : Rg D) (M : RM_ S D) : ∃ T, m_X7_digest S = some (dgD D, T) ∧ RM_ T D := by
  have hN := ND_le (D := D)
  unfold m_X7_digest
  refine it2_inv (fun i p x T => p = fo (fun j => (iI (cntV D j)).toInt64) 17 i ∧ x = iI (i : Int) ∧ RM_ T D) 8 (fun q => ∃ T, q = some (dgD D, T) ∧ RM_ T D) ?_ ?_ 5000 0 _ _ S (by omega) (by omega) ⟨rfl, rfl, M⟩
  · rintro i p x T hi ⟨rfl, rfl, N⟩ rec
    obtain ⟨U, u1, u2⟩ := m_count R N (j := i) (by omega)
    refine ⟨_, _, U, ⟨rfl, rfl, u2⟩, ?_⟩
    unfold b_X7_digest_6
    rw [l8, lt_t (by omega), u1, bnd_some, nm_eq, show iI (i : Int) + 1 = iI ((i + 1 : Nat) : Int) from iI_add _ 1]
    rfl
  · rintro p x T ⟨rfl, rfl, N⟩ rec
    obtain ⟨W, w1, _, w2⟩ := m_flt R N
    unfold b_X7_digest_6
    rw [l8, lt_f (by omega)]
    dsimp only
    rw [w1, bnd_some, nm_eq]
    refine it2_inv (fun i p x U => p = cls D (hd0 D) i ∧ x = iI (i : Int) ∧ Vw U D) (ND D) (fun q => ∃ T, q = some (dgD D, T) ∧ RM_ T D) ?_ ?_ 5000 0 _ _ W (by omega) (by omega) ⟨rfl, rfl, w2⟩
    · rintro i p x U hi ⟨rfl, rfl, V⟩ rec
      obtain ⟨B, b1, b2⟩ := m_dcell R V (c := i) (h := cls D (hd0 D) i) hi
      exact ⟨_, _, B, ⟨rfl, rfl, b2⟩, b1⟩
    · rintro p x U ⟨rfl, rfl, V⟩ rec
      unfold b_X7_digest_45
      rw [V.cells, lt_f (by omega)]
      refine it2_inv (fun i p x W => p = ows D (cls D (hd0 D) (ND D)) i ∧ x = iI (i : Int) ∧ Vw W D) 4 (fun q => ∃ T, q = some (dgD D, T) ∧ RM_ T D) ?_ ?_ 5000 0 _ _ U (by omega) (by omega) ⟨rfl, rfl, V⟩
      · rintro i p x W hi ⟨rfl, rfl, VW⟩ rec
        obtain ⟨A, a1, _, a2⟩ := m_has R VW.1 (o := (i : Int)) (w := 0) (by omega) (by omega)
        obtain ⟨B, b1, _, b2⟩ := m_has R a2.1 (o := (i : Int)) (w := 1) (by omega) (by omega)
        refine ⟨_, _, B, ⟨rfl, rfl, b2⟩, ?_⟩
        unfold b_X7_digest_252
        rw [l4, lt_t (by omega), show m_X7_hasOf (iI (i : Int)) (0 : Int32) W = _ from a1, bnd_some, nm_eq, show m_X7_hasOf (iI (i : Int)) (1 : Int32) A = _ from b1, bnd_some, nm_eq, show iI (i : Int) + 1 = iI ((i + 1 : Nat) : Int) from iI_add _ 1]
        rfl
      · rintro p x W ⟨rfl, rfl, VW⟩ rec
        unfold b_X7_digest_252
        rw [l4, lt_f (by omega)]
        exact m_tail R VW.1
theorem ag_digest : Ag_digest Rel := by
  rintro SX SM ⟨D, R, X, M⟩
  obtain ⟨A, a1, a2⟩ := x_digest R X
  obtain ⟨B, b1, b2⟩ := m_digest R M
  exact ⟨_, _, _, a1, b1, D, R, a2, b2⟩
