/-! clear: the agreement -/
theorem m_w81 {S0 S : St} {cl n : Nat} {x3 x4 : Int32} (hc : cl ≤ 16) (hn : n ≤ 12) (G : GI S0 S) (h16 : ∀ j, j < 14 → gL S 16 j = lL (wys cl 0 j : Nat)) {kk : Int64 → St → Option (Int64 × St)} : ∃ T, it2 (b_X7_clearOf_81 x3 x4 (iI (n : Nat)) (iI (16 - (cl : Int))) kk) 5000 (1 : Int64) (0 : Int32) S = kk (lL ((16 ^ n : Nat) : Int)) T ∧ GI S0 T ∧ ∀ j, j < 14 → gL T 16 j = lL (wys cl n j : Nat) := by
  refine it2_inv (fun i p x T => p = lL ((16 ^ i : Nat) : Int) ∧ x = iI (i : Int) ∧ GI S0 T ∧ ∀ j, j < 14 → gL T 16 j = lL (wys cl i j : Nat)) n (fun q => ∃ T, q = kk (lL ((16 ^ n : Nat) : Int)) T ∧ GI S0 T ∧ ∀ j, j < 14 → gL T 16 j = lL (wys cl n j : Nat)) ?_ ?_ 5000 0 _ _ S (by omega) (by omega) ⟨rfl, rfl, G, h16⟩
  · rintro i p x T hi ⟨rfl, rfl, A1, A2⟩ rec
    obtain ⟨U, u1, u2, u3⟩ := m_w100 (x3 := x3) (x4 := x4) (x5 := iI (n : Nat)) (x9 := iI (i : Int)) (x7 := lL ((16 ^ (i + 1) : Nat) : Int)) hc A1 A2 (kk := fun S12 => rec (lL ((16 ^ (i + 1) : Nat) : Int)) (iI (i : Int) + 1) S12)
    refine ⟨lL ((16 ^ (i + 1) : Nat) : Int), iI ((i + 1 : Nat) : Int), U, ⟨rfl, rfl, u2, u3⟩, ?_⟩
    unfold b_X7_clearOf_81
    rw [lt_t (by omega), show (16 : Int64) = lL 16 from rfl, lL_mul, show (((16 ^ i : Nat) : Int) * 16) = ((16 ^ (i + 1) : Nat) : Int) by rw [Nat.pow_succ]; rfl, nm_eq, u1, l1, iI_add]
    rfl
  · rintro p x T ⟨rfl, rfl, A1, A2⟩ rec
    unfold b_X7_clearOf_81
    rw [lt_f (by omega)]
    exact ⟨T, rfl, A1, A2⟩
theorem m_w167 {S : St} {cl n z : Nat} {x4 : Int32} {x7 : Int64} (hn : n ≤ 12) (hz : z ≤ 12) (h16 : ∀ j, j < 14 → gL S 16 j = lL (wys cl n j : Nat)) {kk : Int64 → St → Option (Int64 × St)} : it2 (b_X7_clearOf_167 x4 x7 kk) 5000 (0 : Int64) (iI (z : Nat)) S = kk (lN (abv cl n z)) S := by
  refine it2_inv (fun i p x T => p = lL ((sn (fun t => wys cl n (z + t)) i : Nat) : Int) ∧ x = iI ((z + i : Nat) : Int) ∧ T = S) (14 - z) (fun q => q = kk (lN (abv cl n z)) S) ?_ ?_ 5000 0 _ _ S (by omega) (by omega) ⟨rfl, rfl, rfl⟩
  · rintro i p x T hi ⟨rfl, rfl, rfl⟩ rec
    refine ⟨lL ((sn (fun t => wys cl n (z + t)) (i + 1) : Nat) : Int), iI ((z + (i + 1) : Nat) : Int), T, ⟨rfl, rfl, rfl⟩, ?_⟩
    unfold b_X7_clearOf_167
    rw [l14, lt_t (by omega), chk_t (by omega), ix_n (by omega), h16 _ (by omega), lL_add, nm_eq, l1, iI_add, sn]
    rfl
  · rintro p x T ⟨rfl, rfl, rfl⟩ rec
    unfold b_X7_clearOf_167
    rw [l14, lt_f (by omega), lN_L]
    have e : sn (fun t => wys cl n (z + t)) (14 - z) = abv cl n z := by
      unfold abv
      rw [show 14 - z = (13 - z) + 1 by omega, sn, wys_0 cl n _ (by omega), Nat.add_zero]
    rw [e]
theorem m_clear {S : St} {D : Nat → Nat → Int} (R : Rg D) (V : Vw S D) {c s : Nat} {z a : Int} (hc : c < ND D) (hs : s < 4) (hz : -1 ≤ z ∧ z ≤ 12) (ha : 0 ≤ a ∧ a < 2) : ∃ T, m_X7_clearOf (iI c) (iI s) (iI z) (iI a) S = some (lN (clV D c s z a), T) ∧ Vw T D := by
  have hh := hr_le (wD D) (hD D) (D 3) c s
  have r6 : 0 ≤ D 6 s ∧ D 6 s ≤ 16 := R 6 s
  have e6 : gI S 6 s = iI (((D 6 s).toNat : Nat) : Int) := by rw [show (((D 6 s).toNat : Nat) : Int) = D 6 s by omega]; exact V.1.1 6 s hs
  unfold m_X7_clearOf clV clN clE
  rw [m_hrs R V hc hs, chk_t (by omega), ix_n (by omega), e6, l16, iI_sub, nm_eq, ← iI_n]
  have hcl : (D 6 s).toNat ≤ 16 := by omega
  generalize hr (wD D) (hD D) (D 3) c s = n at *
  generalize (D 6 s).toNat = cl at *
  by_cases q : z = -1
  · have hb : n * (16 - cl) ≤ 12 * 16 := Nat.mul_le_mul hh (by omega)
    have hi : (n : Int) * (16 - (cl : Int)) = ((n * (16 - cl) : Nat) : Int) := by
      push_cast
      rw [show ((16 - cl : Nat) : Int) = 16 - (cl : Int) by omega]
    refine ⟨S, ?_, V⟩
    rw [eqm_t q, iI_mul, hi, lL_of (by omega), ← lN_L, show (16 : Int64) = lN 16 from rfl, m_low (by omega) (by omega) (by omega) ha, bnd_some, if_pos q, if_pos q]
  · obtain ⟨k, rfl⟩ : ∃ k : Nat, z = k := ⟨z.toNat, by omega⟩
    have hp : 2 ^ (4 * n) ≤ 2 ^ 48 := Nat.pow_le_pow_right (by omega) (by omega)
    have hp0 : 0 < 2 ^ (4 * n) := Nat.two_pow_pos _
    obtain ⟨T, t1, t2, t3⟩ := m_w48 (S0 := S) (S := S) (cl := cl) (x3 := iI (k : Nat)) (x4 := iI a) (x5 := iI (n : Nat)) (x6 := iI (16 - (cl : Int))) (x7 := (1 : Int64)) (fun _ _ => rfl) (kk := fun S8 => it2 (b_X7_clearOf_81 (iI (k : Nat)) (iI a) (iI (n : Nat)) (iI (16 - (cl : Int))) (fun x7_S13 S13 => it2 (b_X7_clearOf_167 (iI a) x7_S13 (fun x9_S15 S15 => bnd (m_X7_lowest x9_S15 x7_S13 (iI a) S15) fun r17 S16 => some (r17, S16))) 5000 (0 : Int64) (iI (k : Nat)) S13)) 5000 (1 : Int64) (0 : Int32) S8)
    obtain ⟨U, u1, u2, u3⟩ := m_w81 (x3 := iI (k : Nat)) (x4 := iI a) hcl hh t2 t3 (kk := fun x7_S13 S13 => it2 (b_X7_clearOf_167 (iI a) x7_S13 (fun x9_S15 S15 => bnd (m_X7_lowest x9_S15 x7_S13 (iI a) S15) fun r17 S16 => some (r17, S16))) 5000 (0 : Int64) (iI (k : Nat)) S13)
    refine ⟨U, ?_, GI.rm u2 V⟩
    rw [eqm_f (by omega), t1, u1, m_w167 hh (by omega) u3, p16n, ← lN_L, m_low (abv_lt hcl hh) (by omega) hp0 ha, bnd_some, if_neg q, if_neg q, Int.toNat_natCast]
