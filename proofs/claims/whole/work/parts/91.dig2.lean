def fo (f : Nat → Int64) (h : Int64) : Nat → Int64
  | 0 => h
  | n + 1 => 31 * fo f h n + f n
def d7 (D : Nat → Nat → Int) (c : Nat) (h : Int64) : Int64 := 31 * (31 * (31 * (31 * (31 * (fo (fun s => (nI (btl (wD D) (hD D) (D 3) c s)).toInt64) (fo (fun k => (iI (celV D c k)).toInt64) h 3) 4) + (iI (yD D c)).toInt64) + (iI (shd (wD D) (hD D) (D 3) c (sdh 3) (stp 0 3))).toInt64) + (iI (valD D c 1)).toInt64) + (iI (hiD D c 500)).toInt64) + (iI (setV D c)).toInt64
def d11 (D : Nat → Nat → Int) (c : Nat) (h : Int64) : Int64 := 31 * (31 * (31 * (31 * d7 D c h + lN (clV D c 2 (-1) 0)) + lN (clV D c 2 (-1) 1)) + lN (clV D c 2 3 0)) + lN (clV D c 2 3 1)
theorem x_mixCell {S : St} {D : Nat → Nat → Int} (R : Rg D) (X : RX S D) {c : Nat} {h : Int64} (hc : c < ND D) : ∃ T, m_X6_mixCell h (iI c) S = some (d7 D c h, T) ∧ RX T D := by
  have hN := ND_le (D := D)
  unfold m_X6_mixCell
  refine it2_inv (fun i p x T => p = fo (fun k => (iI (celV D c k)).toInt64) h i ∧ x = iI (i : Int) ∧ T = S) 3 (fun q => ∃ T, q = some (d7 D c h, T) ∧ RX T D) ?_ ?_ 5000 0 _ _ S (by omega) (by omega) ⟨rfl, rfl, rfl⟩
  · rintro i p x T hi ⟨rfl, rfl, rfl⟩ rec
    refine ⟨_, _, T, ⟨rfl, rfl, rfl⟩, ?_⟩
    unfold b_X6_mixCell_6 m_X6_mix
    rw [l3, lt_t (by omega), x_cell X hc hi, bnd_some, bnd_some, l1, iI_add]
    rfl
  · rintro p x T ⟨rfl, rfl, rfl⟩ rec
    unfold b_X6_mixCell_6
    rw [l3, lt_f (by omega)]
    dsimp only
    refine it2_inv (fun i p x U => p = fo (fun s => (nI (btl (wD D) (hD D) (D 3) c s)).toInt64) (fo (fun k => (iI (celV D c k)).toInt64) h 3) i ∧ x = iI (i : Int) ∧ U = T) 4 (fun q => ∃ T, q = some (d7 D c h, T) ∧ RX T D) ?_ ?_ 5000 0 _ _ T (by omega) (by omega) ⟨rfl, rfl, rfl⟩
    · rintro i p x U hi ⟨rfl, rfl, rfl⟩ rec
      refine ⟨_, _, U, ⟨rfl, rfl, rfl⟩, ?_⟩
      unfold b_X6_mixCell_36 m_X6_mix
      rw [l4, lt_t (by omega), x_light X hc hi, bnd_some, bnd_some, l1, iI_add]
      rfl
    · rintro p x U ⟨rfl, rfl, rfl⟩ rec
      obtain ⟨A, a1, a2⟩ := x_highest R X (c := c) (z := 500) hc (by omega)
      obtain ⟨B, b1, b2⟩ := x_set R (X.scr (a2.mono (by decide))) (a := (c : Int)) (Or.inr (by omega))
      refine ⟨B, ?_, b2⟩
      unfold b_X6_mixCell_36 m_X6_mix
      rw [l4, lt_f (by omega)]
      dsimp only
      rw [x_hoursY X hc, bnd_some, bnd_some, show m_X6_shade (iI (c : Int)) (0 : Int32) (iI 3) U = _ from x_shade03 R X hc, bnd_some, bnd_some, x_val1 X hc, bnd_some, bnd_some, l500, a1, bnd_some, bnd_some, b1, bnd_some, bnd_some]
      rfl
