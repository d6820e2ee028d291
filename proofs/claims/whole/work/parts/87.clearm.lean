/-! clear: the reference's ways -/
theorem m_w48 {S0 S : St} {x3 x4 x5 x6 : Int32} {x7 : Int64} (G : GI S0 S) {cl : Nat} {kk : St → Option (Int64 × St)} : ∃ T, it1 (b_X7_clearOf_48 x3 x4 x5 x6 x7 kk) 5000 (0 : Int32) S = kk T ∧ GI S0 T ∧ ∀ j, j < 14 → gL T 16 j = lL (wys cl 0 j : Nat) := by
  refine it1_inv (fun i x T => x = iI (i : Int) ∧ GI S0 T ∧ ∀ j, j < i → gL T 16 j = lL (wys cl 0 j : Nat)) 14 (fun q => ∃ T, q = kk T ∧ GI S0 T ∧ ∀ j, j < 14 → gL T 16 j = lL (wys cl 0 j : Nat)) ?_ ?_ 5000 0 _ S (by omega) (by omega) ⟨rfl, G, fun k hk => absurd hk (Nat.not_lt_zero _)⟩
  · rintro i x T hi ⟨rfl, A1, A2⟩ rec
    have ei : iI (i : Int) + 1 = iI ((i + 1 : Nat) : Int) := iI_add _ 1
    refine ⟨iI ((i + 1 : Nat) : Int), sL T 16 i (lL (wys cl 0 i : Nat)), ⟨rfl, A1, fun k hk => ?_⟩, ?_⟩
    · rw [gL_k]
      by_cases e : k = i
      · rw [if_pos e, e]
      · rw [if_neg e]; exact A2 k (by omega)
    · unfold b_X7_clearOf_48
      rw [l14, lt_t (by omega), ei]
      by_cases e : i = 0
      · rw [eq0_t (by omega), chk_t (by omega), ix_n (by omega), nm_eq, wys, if_pos e]
        rfl
      · rw [eq0_f (by omega), chk_t (by omega), ix_n (by omega), nm_eq, wys, if_neg e]
        rfl
  · rintro x T ⟨rfl, A1, A2⟩ rec
    unfold b_X7_clearOf_48
    rw [l14, lt_f (by omega)]
    exact ⟨T, rfl, A1, A2⟩
theorem m_w100 {S0 S : St} {cl k : Nat} {x3 x4 x5 x9 : Int32} {x7 : Int64} (hc : cl ≤ 16) (G : GI S0 S) (h16 : ∀ j, j < 14 → gL S 16 j = lL (wys cl k j : Nat)) {kk : St → Option (Int64 × St)} : ∃ T, it1 (b_X7_clearOf_100 x3 x4 x5 (iI (16 - (cl : Int))) x7 x9 kk) 5000 (13 : Int32) S = kk T ∧ GI S0 T ∧ ∀ j, j < 14 → gL T 16 j = lL (wys cl (k + 1) j : Nat) := by
  refine it1_inv (fun i x T => x = iI (13 - (i : Int)) ∧ GI S0 T ∧ (∀ j, 13 < j + i → j < 14 → gL T 16 j = lL (wys cl (k + 1) j : Nat)) ∧ (∀ j, j + i ≤ 13 → gL T 16 j = lL (wys cl k j : Nat))) 14 (fun q => ∃ T, q = kk T ∧ GI S0 T ∧ ∀ j, j < 14 → gL T 16 j = lL (wys cl (k + 1) j : Nat)) ?_ ?_ 5000 0 _ S (by omega) (by omega) ⟨rfl, G, fun j g1 g2 => by omega, fun j hj => h16 j (by omega)⟩
  · rintro i x T hi ⟨rfl, A1, A2, A3⟩ rec
    obtain ⟨d, hd⟩ : ∃ d : Nat, 13 = d + i := ⟨13 - i, by omega⟩
    have em : iI (d : Int) + (-1) = iI (13 - ((i + 1 : Nat) : Int)) := by rw [lm1, iI_add, show ((d : Int) + -1) = 13 - ((i + 1 : Nat) : Int) by omega]
    have fin : GI S0 (sL T 16 d (lL (wys cl (k + 1) d : Nat))) ∧ (∀ j, 13 < j + (i + 1) → j < 14 → gL (sL T 16 d (lL (wys cl (k + 1) d : Nat))) 16 j = lL (wys cl (k + 1) j : Nat)) ∧ (∀ j, j + (i + 1) ≤ 13 → gL (sL T 16 d (lL (wys cl (k + 1) d : Nat))) 16 j = lL (wys cl k j : Nat)) := by
      refine ⟨A1, fun j g1 g2 => ?_, fun j g1 => ?_⟩
      · rw [gL_k]
        by_cases e : j = d
        · rw [if_pos e, e]
        · rw [if_neg e]; exact A2 j (by omega) g2
      · rw [gL_k, if_neg (by omega)]; exact A3 j (by omega)
    refine ⟨iI (13 - ((i + 1 : Nat) : Int)), sL T 16 d (lL (wys cl (k + 1) d : Nat)), ⟨rfl, fin⟩, ?_⟩
    unfold b_X7_clearOf_100
    rw [show (13 - (i : Int)) = (d : Int) by omega, lt0_f (by omega), chk_t (by omega), em]
    by_cases q : d = 0
    · subst q
      rw [gt0_f (by omega), chk_t (by omega), ix_n (by omega), A3 0 (by omega), l16, iI_sub, lL_of (by omega), lL_mul, show (0 : Int64) = lL 0 from rfl, lL_add, nm_eq, wys_i0, show (16 - (16 - (cl : Int))) = (cl : Int) by omega, Int.add_zero]
    · rw [gt0_t (by omega), show iI (d : Int) - (1 : Int32) = iI ((d : Int) - 1) from iI_sub _ 1, show ((d : Int) - 1) = ((d - 1 : Nat) : Int) by omega, chk_t (by omega), chk_t (by omega), ix_n (by omega), ix_n (by omega), A3 d (by omega), A3 (d - 1) (by omega), l16, iI_sub, lL_of (by omega), lL_of (by omega), lL_mul, lL_mul, lL_add, nm_eq, wys_i hc (by omega), show (16 - (16 - (cl : Int))) = (cl : Int) by omega]
  · rintro x T ⟨rfl, A1, A2, A3⟩ rec
    unfold b_X7_clearOf_100
    rw [lt0_t (by omega)]
    exact ⟨T, rfl, A1, fun j hj => A2 j (by omega) hj⟩
