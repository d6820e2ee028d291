theorem x_digest {S : St} {D : Nat → Nat → Int} (R : Rg D) (X : RX S D) : ∃ T, m_X6_digest S = some (dgD D, T) ∧ RX T D := by
  have hN := ND_le (D := D)
  unfold m_X6_digest
  refine it2_inv (fun i p x T => p = fo (fun j => (iI (cntV D j)).toInt64) 17 i ∧ x = iI (i : Int) ∧ T = S) 8 (fun q => ∃ T, q = some (dgD D, T) ∧ RX T D) ?_ ?_ 5000 0 _ _ S (by omega) (by omega) ⟨rfl, rfl, rfl⟩
  · rintro i p x T hi ⟨rfl, rfl, rfl⟩ rec
    refine ⟨_, _, T, ⟨rfl, rfl, rfl⟩, ?_⟩
    unfold b_X6_digest_6 m_X6_mix
    rw [l7, lt_f (by omega), x_count R X (by omega), bnd_some, bnd_some, show iI (i : Int) + 1 = iI ((i + 1 : Nat) : Int) from iI_add _ 1]
    rfl
  · rintro p x T ⟨rfl, rfl, rfl⟩ rec
    have ef : m_X6_fault T = some (iI (ft (D 1) (nD D)), T) := by
      unfold m_X6_fault m_X1_faultPlace
      rw [bnd_some, X.2.2.1.1.1]
    have em : ∀ (a b : Int64) (U : St), m_X6_mix a b U = some (31 * a + b, U) := fun a b U => rfl
    unfold b_X6_digest_6
    rw [l7, lt_t (by omega)]
    dsimp only
    rw [ef, bnd_some, em, bnd_some]
    refine it2_inv (fun i p x U => p = cls D (hd0 D) i ∧ x = iI (i : Int) ∧ RX U D) (ND D) (fun q => ∃ T, q = some (dgD D, T) ∧ RX T D) ?_ ?_ 5000 0 _ _ T (by omega) (by omega) ⟨rfl, rfl, X⟩
    · rintro i p x U hi ⟨rfl, rfl, XU⟩ rec
      obtain ⟨A, a1, a2⟩ := x_mixCell R XU (c := i) (h := cls D (hd0 D) i) hi
      obtain ⟨B, b1, b2⟩ := x_chances R a2 (c := i) (h := d7 D i (cls D (hd0 D) i)) hi
      refine ⟨_, _, B, ⟨rfl, rfl, b2⟩, ?_⟩
      unfold b_X6_digest_41 m_X1_cells
      rw [bnd_some, show gI U 43 0 = iI ((ND D : Nat) : Int) from XU.2.2.1.1.2.1, lt_t (by omega), a1, bnd_some, b1, bnd_some, show iI (i : Int) + 1 = iI ((i + 1 : Nat) : Int) from iI_add _ 1]
      rfl
    · rintro p x U ⟨rfl, rfl, XU⟩ rec
      unfold b_X6_digest_41 m_X1_cells
      rw [bnd_some, show gI U 43 0 = iI ((ND D : Nat) : Int) from XU.2.2.1.1.2.1, lt_f (by omega)]
      dsimp only
      refine it2_inv (fun i p x W => p = ows D (cls D (hd0 D) (ND D)) i ∧ x = iI (i : Int) ∧ W = U) 4 (fun q => ∃ T, q = some (dgD D, T) ∧ RX T D) ?_ ?_ 5000 0 _ _ U (by omega) (by omega) ⟨rfl, rfl, rfl⟩
      · rintro i p x W hi ⟨rfl, rfl, rfl⟩ rec
        refine ⟨_, _, W, ⟨rfl, rfl, rfl⟩, ?_⟩
        unfold b_X6_digest_72
        rw [l4, lt_t (by omega), show m_X6_has (iI (i : Int)) (0 : Int32) W = _ from x_has R XU (o := (i : Int)) (w := 0) (by omega) (by omega), bnd_some, em, bnd_some, show m_X6_has (iI (i : Int)) (1 : Int32) W = _ from x_has R XU (o := (i : Int)) (w := 1) (by omega) (by omega), bnd_some, em, bnd_some, show iI (i : Int) + 1 = iI ((i + 1 : Nat) : Int) from iI_add _ 1]
        rfl
      · rintro p x W ⟨rfl, rfl, rfl⟩ rec
        unfold b_X6_digest_72
        rw [l4, lt_f (by omega)]
        exact x_tail R XU
