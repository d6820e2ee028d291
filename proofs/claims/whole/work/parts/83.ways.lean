/-! clear: the class's counting of ways -/
theorem lL_mul (a b : Int) : lL a * lL b = lL (a * b) := (Int64.ofInt_mul a b).symm
theorem wys_i {cl k j : Nat} (hc : cl ≤ 16) (hj : 1 ≤ j) : ((wys cl (k + 1) j : Nat) : Int) = (wys cl k j : Nat) * (cl : Int) + (wys cl k (j - 1) : Nat) * (16 - (cl : Int)) := by
  rw [wys, if_neg (by omega)]
  push_cast
  rw [show ((16 - cl : Nat) : Int) = 16 - (cl : Int) by omega]
theorem wys_i0 {cl k : Nat} : ((wys cl (k + 1) 0 : Nat) : Int) = (wys cl k 0 : Nat) * (cl : Int) := by
  rw [wys, if_pos rfl, Nat.add_zero]
  push_cast
  rfl
theorem gL_k {S : St} {k j : Nat} {x : Int64} {b : Nat} : gL (sL S k j x) k b = if b = j then x else gL S k b := by rw [gL_sL, if_pos rfl]
theorem gL_n {S : St} {k j : Nat} {x : Int64} {a b : Nat} (h : a ≠ k) : gL (sL S k j x) a b = gL S a b := by rw [gL_sL, if_neg h]
theorem x_cw1 {S0 S : St} {cl k : Nat} {x1 x3 : Int32} {l : Int64} (hc : cl ≤ 16) (G : GI S0 S) (h21 : ∀ j, j < 13 → gL S 21 j = lL (wys cl k j : Nat)) (h1 : gL S 1 0 = l) {kk : St → Option St} : ∃ T, it1 (b_X0_countWays_31 x1 (iI (cl : Nat)) x3 kk) 5000 (12 : Int32) S = kk T ∧ GI S0 T ∧ (∀ j, 1 ≤ j → j < 13 → gL T 21 j = lL (wys cl (k + 1) j : Nat)) ∧ gL T 21 0 = lL (wys cl k 0 : Nat) ∧ gL T 1 0 = l := by
  refine it1_inv (fun i x T => x = iI (12 - (i : Int)) ∧ GI S0 T ∧ (∀ j, 12 - i < j → j < 13 → gL T 21 j = lL (wys cl (k + 1) j : Nat)) ∧ (∀ j, j ≤ 12 - i → gL T 21 j = lL (wys cl k j : Nat)) ∧ gL T 1 0 = l) 12 (fun q => ∃ T, q = kk T ∧ GI S0 T ∧ (∀ j, 1 ≤ j → j < 13 → gL T 21 j = lL (wys cl (k + 1) j : Nat)) ∧ gL T 21 0 = lL (wys cl k 0 : Nat) ∧ gL T 1 0 = l) ?_ ?_ 5000 0 _ S (by omega) (by omega) ⟨rfl, G, fun j g1 g2 => by omega, fun j hj => h21 j (by omega), h1⟩
  · rintro i x T hi ⟨rfl, A1, A2, A3, A4⟩ rec
    obtain ⟨d, hd⟩ : ∃ d : Nat, 12 = d + 1 + i := ⟨11 - i, by omega⟩
    refine ⟨iI (12 - ((i + 1 : Nat) : Int)), sL T 21 (d + 1) (lL (wys cl (k + 1) (d + 1) : Nat)), ⟨rfl, A1, fun j g1 g2 => ?_, fun j g1 => ?_, by rw [gL_n (by decide)]; exact A4⟩, ?_⟩
    · rw [gL_k]
      by_cases e : j = d + 1
      · rw [if_pos e, e]
      · rw [if_neg e]; exact A2 j (by omega) g2
    · rw [gL_k, if_neg (by omega)]; exact A3 j (by omega)
    · unfold b_X0_countWays_31
      rw [show (12 - (i : Int)) = ((d + 1 : Nat) : Int) by omega, gt0_t (by omega), chk_t (by omega), l1, iI_sub, show (((d + 1 : Nat) : Int) - 1) = (d : Int) by omega, chk_t (by omega), chk_t (by omega), ix_n (by omega), ix_n (by omega), A3 (d + 1) (by omega), A3 d (by omega), l16, iI_sub, lL_of (by omega), lL_of (by omega), lL_mul, lL_mul, lL_add, wys_i hc (by omega), show d + 1 - 1 = d from rfl, nm_eq, iI_neg, iI_add, show (((d + 1 : Nat) : Int) + (-1)) = 12 - ((i + 1 : Nat) : Int) by omega]
  · rintro x T ⟨rfl, A1, A2, A3, A4⟩ rec
    unfold b_X0_countWays_31
    rw [gt0_f (by omega)]
    exact ⟨T, rfl, A1, fun j g1 g2 => A2 j (by omega) g2, A3 0 (by omega), A4⟩
