/-! PURE: sums of years over sets of cells; what prepare lays -/
def sb (f : Nat → Int) (m : Nat) (n : Nat) : Int := sm (fun i => if m.testBit i then f i else 0) n
def yy (y : Nat → Int) (N c : Nat) : Int := if c < N then y c else 0
theorem sb_lo {f : Nat → Int} {m k : Nat} (h : m < 2 ^ k) : sb f m (k + 1) = sb f m k := by
  unfold sb
  rw [sm, Nat.testBit_lt_two_pow h]
  simp
theorem sb_hi {f : Nat → Int} {m k : Nat} (h : m < 2 ^ k) : sb f (2 ^ k + m) (k + 1) = sb f m k + f k := by
  unfold sb
  rw [sm, Nat.testBit_two_pow_add_eq, Nat.testBit_lt_two_pow h]
  simp only [Bool.not_false, if_true]
  rw [sm_cong (fun i hi => by rw [Nat.testBit_two_pow_add_gt hi])]
theorem or_sum {m k : Nat} (h : m < 2 ^ k) (hk : k < 31) : nI m ||| ((1 : Int32) <<< (nI k &&& 31)) = nI (2 ^ k + m) := by
  rw [one_shl k hk, fa_or, Nat.or_comm]
  have := Nat.two_pow_add_eq_or_of_lt h 1
  rw [Nat.mul_one] at this
  rw [this]
theorem x_fs_15_14 {S : St} {N : Nat} {y : Nat → Int} (hN : N ≤ 12) (h45 : gI S 45 0 = iI N) (hy : ∀ c, c < N → gI S 14 c = iI (y c)) : ∃ T, m_X2_fillSums_15_14 (0 : Int32) S = some T ∧ Fr [15] S T ∧ ∀ m, m < 64 → gI T 15 m = iI (sb (fun i => yy y N (0 + i)) m 6) := by
  unfold m_X2_fillSums_15_14
  rw [show (0 : Int32) = iI 0 from rfl, chk_t (by omega), nm_eq, ix_iI (by omega) (by omega)]
  refine it1_inv (fun i x T => x = iI (i : Int) ∧ Fr [15] S T ∧ ∀ m, m < 2 ^ i → gI T 15 m = iI (sb (fun i => yy y N (0 + i)) m i)) 6 (fun q => ∃ T, q = some T ∧ Fr [15] S T ∧ ∀ m, m < 64 → gI T 15 m = iI (sb (fun i => yy y N (0 + i)) m 6)) ?_ ?_ 5000 0 _ _ (by omega) (by omega) ⟨rfl, Fr.rf.set (by decide), fun m hm => ?_⟩
  · rintro i x T hi ⟨rfl, A1, A2⟩ rec
    have h2 : 2 ^ i ≤ 32 := Nat.pow_le_pow_right (n := 2) (by omega) (show i ≤ 5 by omega)
    have h0 : 0 < 2 ^ i := Nat.two_pow_pos i
    have inn : ∀ (z : Int), z = yy y N (0 + i) → ∀ kk : St → Option St, ∃ U, it1 (b_X2_fillSums_15_14_42 (iI 0) (iI i) (iI z) kk) 5000 (iI 0) T = kk U ∧ Fr [15] S U ∧ ∀ m, m < 2 ^ (i + 1) → gI U 15 m = iI (sb (fun i => yy y N (0 + i)) m (i + 1)) := by
      rintro z rfl kk
      refine it1_inv (fun j x U => x = iI (j : Int) ∧ Fr [15] S U ∧ (∀ m, m < 2 ^ i → gI U 15 m = iI (sb (fun i => yy y N (0 + i)) m i)) ∧ ∀ m, m < j → gI U 15 (2 ^ i + m) = iI (sb (fun i => yy y N (0 + i)) m i + yy y N (0 + i))) (2 ^ i) (fun q => ∃ U, q = kk U ∧ Fr [15] S U ∧ ∀ m, m < 2 ^ (i + 1) → gI U 15 m = iI (sb (fun i => yy y N (0 + i)) m (i + 1))) ?_ ?_ 5000 0 _ T (by omega) (by omega) ⟨rfl, A1, A2, fun m hm => absurd hm (Nat.not_lt_zero _)⟩
      · rintro j x U hj ⟨rfl, B1, B2, B3⟩ rec
        refine ⟨iI ((j + 1 : Nat) : Int), sI U 15 (2 ^ i + j) (iI (sb (fun i => yy y N (0 + i)) j i + yy y N (0 + i))), ⟨rfl, B1.set (by decide), fun m hm => ?_, fun m hm => ?_⟩, ?_⟩
        · rw [gI_sI_k, if_neg (by omega)]; exact B2 m hm
        · rw [gI_sI_k]
          by_cases e : m = j
          · rw [if_pos (by omega), e]
          · rw [if_neg (by omega)]; exact B3 m (by omega)
        · unfold b_X2_fillSums_15_14_42
          have e1 : (iI (j : Int)) ||| ((1 : Int32) <<< (iI (i : Int) &&& 31)) = iI ((2 ^ i + j : Nat) : Int) := by rw [iI_n, iI_n, or_sum hj (by omega), iI_n]
          have e2 : (1 : Int32) <<< (iI (i : Int) &&& 31) = iI ((2 ^ i : Nat) : Int) := by rw [iI_n, one_shl i (by omega), iI_n]
          rw [e1, e2, lt_t (by omega), chk_t (by omega), chk_t (by omega), ix_n (by omega), ix_n (by omega), B2 j hj, iI_add, nm_eq, l1, iI_add]
          rfl
      · rintro x U ⟨rfl, B1, B2, B3⟩ rec
        unfold b_X2_fillSums_15_14_42
        have e2 : (1 : Int32) <<< (iI (i : Int) &&& 31) = iI ((2 ^ i : Nat) : Int) := by rw [iI_n, one_shl i (by omega), iI_n]
        rw [e2, lt_f (by omega)]
        refine ⟨U, rfl, B1, fun m hm => ?_⟩
        rw [Nat.pow_succ] at hm
        by_cases e : m < 2 ^ i
        · rw [sb_lo e]; exact B2 m e
        · obtain ⟨m2, rfl⟩ : ∃ m2, m = 2 ^ i + m2 := ⟨m - 2 ^ i, by omega⟩
          rw [sb_hi (by omega)]
          exact B3 m2 (by omega)
    by_cases q : ((0 : Int) + (i : Int)) < N
    · obtain ⟨U, u1, u2, u3⟩ := inn (y (0 + i)) (by unfold yy; rw [if_pos (by omega)]) (fun S6 => rec (iI i + 1) S6)
      refine ⟨iI ((i + 1 : Nat) : Int), U, ⟨rfl, u2, u3⟩, ?_⟩
      unfold b_X2_fillSums_15_14_7
      rw [l6, lt_t (by omega), iI_add, nm_eq, A1.1 45 0 (by decide), h45, if_lt (by omega), if_pos q, show ((0 : Int) + (i : Int)) = ((0 + i : Nat) : Int) by omega, chk_t (by omega), ix_n (by omega), A1.1 14 _ (by decide), hy _ (by omega), nm_eq, show (0 : Int32) = iI 0 from rfl, u1, l1, iI_add]
      rfl
    · obtain ⟨U, u1, u2, u3⟩ := inn 0 (by unfold yy; rw [if_neg (by omega)]) (fun S6 => rec (iI i + 1) S6)
      refine ⟨iI ((i + 1 : Nat) : Int), U, ⟨rfl, u2, u3⟩, ?_⟩
      unfold b_X2_fillSums_15_14_7
      rw [l6, lt_t (by omega), iI_add, nm_eq, A1.1 45 0 (by decide), h45, if_lt (by omega), if_neg q, show (0 : Int32) = iI 0 from rfl, u1, l1, iI_add]
      rfl
  · rintro x T ⟨rfl, A1, A2⟩ rec
    unfold b_X2_fillSums_15_14_7
    rw [l6, lt_f (by omega)]
    exact ⟨T, rfl, A1, A2⟩
  · rw [gI_sI_k, show m = 0 by simpa using hm, if_pos (show (0 : Nat) = Int.toNat 0 from rfl)]
    rfl
theorem x_fs_16_14 {S : St} {N : Nat} {y : Nat → Int} (hN : N ≤ 12) (h45 : gI S 45 0 = iI N) (hy : ∀ c, c < N → gI S 14 c = iI (y c)) : ∃ T, m_X2_fillSums_16_14 (6 : Int32) S = some T ∧ Fr [16] S T ∧ ∀ m, m < 64 → gI T 16 m = iI (sb (fun i => yy y N (6 + i)) m 6) := by
  unfold m_X2_fillSums_16_14
  rw [show (0 : Int32) = iI 0 from rfl, chk_t (by omega), nm_eq, ix_iI (by omega) (by omega)]
  refine it1_inv (fun i x T => x = iI (i : Int) ∧ Fr [16] S T ∧ ∀ m, m < 2 ^ i → gI T 16 m = iI (sb (fun i => yy y N (6 + i)) m i)) 6 (fun q => ∃ T, q = some T ∧ Fr [16] S T ∧ ∀ m, m < 64 → gI T 16 m = iI (sb (fun i => yy y N (6 + i)) m 6)) ?_ ?_ 5000 0 _ _ (by omega) (by omega) ⟨rfl, Fr.rf.set (by decide), fun m hm => ?_⟩
  · rintro i x T hi ⟨rfl, A1, A2⟩ rec
    have h2 : 2 ^ i ≤ 32 := Nat.pow_le_pow_right (n := 2) (by omega) (show i ≤ 5 by omega)
    have h0 : 0 < 2 ^ i := Nat.two_pow_pos i
    have inn : ∀ (z : Int), z = yy y N (6 + i) → ∀ kk : St → Option St, ∃ U, it1 (b_X2_fillSums_16_14_42 (iI 6) (iI i) (iI z) kk) 5000 (iI 0) T = kk U ∧ Fr [16] S U ∧ ∀ m, m < 2 ^ (i + 1) → gI U 16 m = iI (sb (fun i => yy y N (6 + i)) m (i + 1)) := by
      rintro z rfl kk
      refine it1_inv (fun j x U => x = iI (j : Int) ∧ Fr [16] S U ∧ (∀ m, m < 2 ^ i → gI U 16 m = iI (sb (fun i => yy y N (6 + i)) m i)) ∧ ∀ m, m < j → gI U 16 (2 ^ i + m) = iI (sb (fun i => yy y N (6 + i)) m i + yy y N (6 + i))) (2 ^ i) (fun q => ∃ U, q = kk U ∧ Fr [16] S U ∧ ∀ m, m < 2 ^ (i + 1) → gI U 16 m = iI (sb (fun i => yy y N (6 + i)) m (i + 1))) ?_ ?_ 5000 0 _ T (by omega) (by omega) ⟨rfl, A1, A2, fun m hm => absurd hm (Nat.not_lt_zero _)⟩
      · rintro j x U hj ⟨rfl, B1, B2, B3⟩ rec
        refine ⟨iI ((j + 1 : Nat) : Int), sI U 16 (2 ^ i + j) (iI (sb (fun i => yy y N (6 + i)) j i + yy y N (6 + i))), ⟨rfl, B1.set (by decide), fun m hm => ?_, fun m hm => ?_⟩, ?_⟩
        · rw [gI_sI_k, if_neg (by omega)]; exact B2 m hm
        · rw [gI_sI_k]
          by_cases e : m = j
          · rw [if_pos (by omega), e]
          · rw [if_neg (by omega)]; exact B3 m (by omega)
        · unfold b_X2_fillSums_16_14_42
          have e1 : (iI (j : Int)) ||| ((1 : Int32) <<< (iI (i : Int) &&& 31)) = iI ((2 ^ i + j : Nat) : Int) := by rw [iI_n, iI_n, or_sum hj (by omega), iI_n]
          have e2 : (1 : Int32) <<< (iI (i : Int) &&& 31) = iI ((2 ^ i : Nat) : Int) := by rw [iI_n, one_shl i (by omega), iI_n]
          rw [e1, e2, lt_t (by omega), chk_t (by omega), chk_t (by omega), ix_n (by omega), ix_n (by omega), B2 j hj, iI_add, nm_eq, l1, iI_add]
          rfl
      · rintro x U ⟨rfl, B1, B2, B3⟩ rec
        unfold b_X2_fillSums_16_14_42
        have e2 : (1 : Int32) <<< (iI (i : Int) &&& 31) = iI ((2 ^ i : Nat) : Int) := by rw [iI_n, one_shl i (by omega), iI_n]
        rw [e2, lt_f (by omega)]
        refine ⟨U, rfl, B1, fun m hm => ?_⟩
        rw [Nat.pow_succ] at hm
        by_cases e : m < 2 ^ i
        · rw [sb_lo e]; exact B2 m e
        · obtain ⟨m2, rfl⟩ : ∃ m2, m = 2 ^ i + m2 := ⟨m - 2 ^ i, by omega⟩
          rw [sb_hi (by omega)]
          exact B3 m2 (by omega)
    by_cases q : ((6 : Int) + (i : Int)) < N
    · obtain ⟨U, u1, u2, u3⟩ := inn (y (6 + i)) (by unfold yy; rw [if_pos (by omega)]) (fun S6 => rec (iI i + 1) S6)
      refine ⟨iI ((i + 1 : Nat) : Int), U, ⟨rfl, u2, u3⟩, ?_⟩
      unfold b_X2_fillSums_16_14_7
      rw [l6, lt_t (by omega), iI_add, nm_eq, A1.1 45 0 (by decide), h45, if_lt (by omega), if_pos q, show ((6 : Int) + (i : Int)) = ((6 + i : Nat) : Int) by omega, chk_t (by omega), ix_n (by omega), A1.1 14 _ (by decide), hy _ (by omega), nm_eq, show (0 : Int32) = iI 0 from rfl, u1, l1, iI_add]
      rfl
    · obtain ⟨U, u1, u2, u3⟩ := inn 0 (by unfold yy; rw [if_neg (by omega)]) (fun S6 => rec (iI i + 1) S6)
      refine ⟨iI ((i + 1 : Nat) : Int), U, ⟨rfl, u2, u3⟩, ?_⟩
      unfold b_X2_fillSums_16_14_7
      rw [l6, lt_t (by omega), iI_add, nm_eq, A1.1 45 0 (by decide), h45, if_lt (by omega), if_neg q, show (0 : Int32) = iI 0 from rfl, u1, l1, iI_add]
      rfl
  · rintro x T ⟨rfl, A1, A2⟩ rec
    unfold b_X2_fillSums_16_14_7
    rw [l6, lt_f (by omega)]
    exact ⟨T, rfl, A1, A2⟩
  · rw [gI_sI_k, show m = 0 by simpa using hm, if_pos (show (0 : Nat) = Int.toNat 0 from rfl)]
    rfl
theorem x_fs_15_28 {S : St} {N : Nat} {y : Nat → Int} (hN : N ≤ 12) (h45 : gI S 45 0 = iI N) (hy : ∀ c, c < N → gI S 28 c = iI (y c)) : ∃ T, m_X2_fillSums_15_28 (0 : Int32) S = some T ∧ Fr [15] S T ∧ ∀ m, m < 64 → gI T 15 m = iI (sb (fun i => yy y N (0 + i)) m 6) := by
  unfold m_X2_fillSums_15_28
  rw [show (0 : Int32) = iI 0 from rfl, chk_t (by omega), nm_eq, ix_iI (by omega) (by omega)]
  refine it1_inv (fun i x T => x = iI (i : Int) ∧ Fr [15] S T ∧ ∀ m, m < 2 ^ i → gI T 15 m = iI (sb (fun i => yy y N (0 + i)) m i)) 6 (fun q => ∃ T, q = some T ∧ Fr [15] S T ∧ ∀ m, m < 64 → gI T 15 m = iI (sb (fun i => yy y N (0 + i)) m 6)) ?_ ?_ 5000 0 _ _ (by omega) (by omega) ⟨rfl, Fr.rf.set (by decide), fun m hm => ?_⟩
  · rintro i x T hi ⟨rfl, A1, A2⟩ rec
    have h2 : 2 ^ i ≤ 32 := Nat.pow_le_pow_right (n := 2) (by omega) (show i ≤ 5 by omega)
    have h0 : 0 < 2 ^ i := Nat.two_pow_pos i
    have inn : ∀ (z : Int), z = yy y N (0 + i) → ∀ kk : St → Option St, ∃ U, it1 (b_X2_fillSums_15_28_42 (iI 0) (iI i) (iI z) kk) 5000 (iI 0) T = kk U ∧ Fr [15] S U ∧ ∀ m, m < 2 ^ (i + 1) → gI U 15 m = iI (sb (fun i => yy y N (0 + i)) m (i + 1)) := by
      rintro z rfl kk
      refine it1_inv (fun j x U => x = iI (j : Int) ∧ Fr [15] S U ∧ (∀ m, m < 2 ^ i → gI U 15 m = iI (sb (fun i => yy y N (0 + i)) m i)) ∧ ∀ m, m < j → gI U 15 (2 ^ i + m) = iI (sb (fun i => yy y N (0 + i)) m i + yy y N (0 + i))) (2 ^ i) (fun q => ∃ U, q = kk U ∧ Fr [15] S U ∧ ∀ m, m < 2 ^ (i + 1) → gI U 15 m = iI (sb (fun i => yy y N (0 + i)) m (i + 1))) ?_ ?_ 5000 0 _ T (by omega) (by omega) ⟨rfl, A1, A2, fun m hm => absurd hm (Nat.not_lt_zero _)⟩
      · rintro j x U hj ⟨rfl, B1, B2, B3⟩ rec
        refine ⟨iI ((j + 1 : Nat) : Int), sI U 15 (2 ^ i + j) (iI (sb (fun i => yy y N (0 + i)) j i + yy y N (0 + i))), ⟨rfl, B1.set (by decide), fun m hm => ?_, fun m hm => ?_⟩, ?_⟩
        · rw [gI_sI_k, if_neg (by omega)]; exact B2 m hm
        · rw [gI_sI_k]
          by_cases e : m = j
          · rw [if_pos (by omega), e]
          · rw [if_neg (by omega)]; exact B3 m (by omega)
        · unfold b_X2_fillSums_15_28_42
          have e1 : (iI (j : Int)) ||| ((1 : Int32) <<< (iI (i : Int) &&& 31)) = iI ((2 ^ i + j : Nat) : Int) := by rw [iI_n, iI_n, or_sum hj (by omega), iI_n]
          have e2 : (1 : Int32) <<< (iI (i : Int) &&& 31) = iI ((2 ^ i : Nat) : Int) := by rw [iI_n, one_shl i (by omega), iI_n]
          rw [e1, e2, lt_t (by omega), chk_t (by omega), chk_t (by omega), ix_n (by omega), ix_n (by omega), B2 j hj, iI_add, nm_eq, l1, iI_add]
          rfl
      · rintro x U ⟨rfl, B1, B2, B3⟩ rec
        unfold b_X2_fillSums_15_28_42
        have e2 : (1 : Int32) <<< (iI (i : Int) &&& 31) = iI ((2 ^ i : Nat) : Int) := by rw [iI_n, one_shl i (by omega), iI_n]
        rw [e2, lt_f (by omega)]
        refine ⟨U, rfl, B1, fun m hm => ?_⟩
        rw [Nat.pow_succ] at hm
        by_cases e : m < 2 ^ i
        · rw [sb_lo e]; exact B2 m e
        · obtain ⟨m2, rfl⟩ : ∃ m2, m = 2 ^ i + m2 := ⟨m - 2 ^ i, by omega⟩
          rw [sb_hi (by omega)]
          exact B3 m2 (by omega)
    by_cases q : ((0 : Int) + (i : Int)) < N
    · obtain ⟨U, u1, u2, u3⟩ := inn (y (0 + i)) (by unfold yy; rw [if_pos (by omega)]) (fun S6 => rec (iI i + 1) S6)
      refine ⟨iI ((i + 1 : Nat) : Int), U, ⟨rfl, u2, u3⟩, ?_⟩
      unfold b_X2_fillSums_15_28_7
      rw [l6, lt_t (by omega), iI_add, nm_eq, A1.1 45 0 (by decide), h45, if_lt (by omega), if_pos q, show ((0 : Int) + (i : Int)) = ((0 + i : Nat) : Int) by omega, chk_t (by omega), ix_n (by omega), A1.1 28 _ (by decide), hy _ (by omega), nm_eq, show (0 : Int32) = iI 0 from rfl, u1, l1, iI_add]
      rfl
    · obtain ⟨U, u1, u2, u3⟩ := inn 0 (by unfold yy; rw [if_neg (by omega)]) (fun S6 => rec (iI i + 1) S6)
      refine ⟨iI ((i + 1 : Nat) : Int), U, ⟨rfl, u2, u3⟩, ?_⟩
      unfold b_X2_fillSums_15_28_7
      rw [l6, lt_t (by omega), iI_add, nm_eq, A1.1 45 0 (by decide), h45, if_lt (by omega), if_neg q, show (0 : Int32) = iI 0 from rfl, u1, l1, iI_add]
      rfl
  · rintro x T ⟨rfl, A1, A2⟩ rec
    unfold b_X2_fillSums_15_28_7
    rw [l6, lt_f (by omega)]
    exact ⟨T, rfl, A1, A2⟩
  · rw [gI_sI_k, show m = 0 by simpa using hm, if_pos (show (0 : Nat) = Int.toNat 0 from rfl)]
    rfl
theorem x_fs_16_28 {S : St} {N : Nat} {y : Nat → Int} (hN : N ≤ 12) (h45 : gI S 45 0 = iI N) (hy : ∀ c, c < N → gI S 28 c = iI (y c)) : ∃ T, m_X2_fillSums_16_28 (6 : Int32) S = some T ∧ Fr [16] S T ∧ ∀ m, m < 64 → gI T 16 m = iI (sb (fun i => yy y N (6 + i)) m 6) := by
  unfold m_X2_fillSums_16_28
  rw [show (0 : Int32) = iI 0 from rfl, chk_t (by omega), nm_eq, ix_iI (by omega) (by omega)]
  refine it1_inv (fun i x T => x = iI (i : Int) ∧ Fr [16] S T ∧ ∀ m, m < 2 ^ i → gI T 16 m = iI (sb (fun i => yy y N (6 + i)) m i)) 6 (fun q => ∃ T, q = some T ∧ Fr [16] S T ∧ ∀ m, m < 64 → gI T 16 m = iI (sb (fun i => yy y N (6 + i)) m 6)) ?_ ?_ 5000 0 _ _ (by omega) (by omega) ⟨rfl, Fr.rf.set (by decide), fun m hm => ?_⟩
  · rintro i x T hi ⟨rfl, A1, A2⟩ rec
    have h2 : 2 ^ i ≤ 32 := Nat.pow_le_pow_right (n := 2) (by omega) (show i ≤ 5 by omega)
    have h0 : 0 < 2 ^ i := Nat.two_pow_pos i
    have inn : ∀ (z : Int), z = yy y N (6 + i) → ∀ kk : St → Option St, ∃ U, it1 (b_X2_fillSums_16_28_42 (iI 6) (iI i) (iI z) kk) 5000 (iI 0) T = kk U ∧ Fr [16] S U ∧ ∀ m, m < 2 ^ (i + 1) → gI U 16 m = iI (sb (fun i => yy y N (6 + i)) m (i + 1)) := by
      rintro z rfl kk
      refine it1_inv (fun j x U => x = iI (j : Int) ∧ Fr [16] S U ∧ (∀ m, m < 2 ^ i → gI U 16 m = iI (sb (fun i => yy y N (6 + i)) m i)) ∧ ∀ m, m < j → gI U 16 (2 ^ i + m) = iI (sb (fun i => yy y N (6 + i)) m i + yy y N (6 + i))) (2 ^ i) (fun q => ∃ U, q = kk U ∧ Fr [16] S U ∧ ∀ m, m < 2 ^ (i + 1) → gI U 16 m = iI (sb (fun i => yy y N (6 + i)) m (i + 1))) ?_ ?_ 5000 0 _ T (by omega) (by omega) ⟨rfl, A1, A2, fun m hm => absurd hm (Nat.not_lt_zero _)⟩
      · rintro j x U hj ⟨rfl, B1, B2, B3⟩ rec
        refine ⟨iI ((j + 1 : Nat) : Int), sI U 16 (2 ^ i + j) (iI (sb (fun i => yy y N (6 + i)) j i + yy y N (6 + i))), ⟨rfl, B1.set (by decide), fun m hm => ?_, fun m hm => ?_⟩, ?_⟩
        · rw [gI_sI_k, if_neg (by omega)]; exact B2 m hm
        · rw [gI_sI_k]
          by_cases e : m = j
          · rw [if_pos (by omega), e]
          · rw [if_neg (by omega)]; exact B3 m (by omega)
        · unfold b_X2_fillSums_16_28_42
          have e1 : (iI (j : Int)) ||| ((1 : Int32) <<< (iI (i : Int) &&& 31)) = iI ((2 ^ i + j : Nat) : Int) := by rw [iI_n, iI_n, or_sum hj (by omega), iI_n]
          have e2 : (1 : Int32) <<< (iI (i : Int) &&& 31) = iI ((2 ^ i : Nat) : Int) := by rw [iI_n, one_shl i (by omega), iI_n]
          rw [e1, e2, lt_t (by omega), chk_t (by omega), chk_t (by omega), ix_n (by omega), ix_n (by omega), B2 j hj, iI_add, nm_eq, l1, iI_add]
          rfl
      · rintro x U ⟨rfl, B1, B2, B3⟩ rec
        unfold b_X2_fillSums_16_28_42
        have e2 : (1 : Int32) <<< (iI (i : Int) &&& 31) = iI ((2 ^ i : Nat) : Int) := by rw [iI_n, one_shl i (by omega), iI_n]
        rw [e2, lt_f (by omega)]
        refine ⟨U, rfl, B1, fun m hm => ?_⟩
        rw [Nat.pow_succ] at hm
        by_cases e : m < 2 ^ i
        · rw [sb_lo e]; exact B2 m e
        · obtain ⟨m2, rfl⟩ : ∃ m2, m = 2 ^ i + m2 := ⟨m - 2 ^ i, by omega⟩
          rw [sb_hi (by omega)]
          exact B3 m2 (by omega)
    by_cases q : ((6 : Int) + (i : Int)) < N
    · obtain ⟨U, u1, u2, u3⟩ := inn (y (6 + i)) (by unfold yy; rw [if_pos (by omega)]) (fun S6 => rec (iI i + 1) S6)
      refine ⟨iI ((i + 1 : Nat) : Int), U, ⟨rfl, u2, u3⟩, ?_⟩
      unfold b_X2_fillSums_16_28_7
      rw [l6, lt_t (by omega), iI_add, nm_eq, A1.1 45 0 (by decide), h45, if_lt (by omega), if_pos q, show ((6 : Int) + (i : Int)) = ((6 + i : Nat) : Int) by omega, chk_t (by omega), ix_n (by omega), A1.1 28 _ (by decide), hy _ (by omega), nm_eq, show (0 : Int32) = iI 0 from rfl, u1, l1, iI_add]
      rfl
    · obtain ⟨U, u1, u2, u3⟩ := inn 0 (by unfold yy; rw [if_neg (by omega)]) (fun S6 => rec (iI i + 1) S6)
      refine ⟨iI ((i + 1 : Nat) : Int), U, ⟨rfl, u2, u3⟩, ?_⟩
      unfold b_X2_fillSums_16_28_7
      rw [l6, lt_t (by omega), iI_add, nm_eq, A1.1 45 0 (by decide), h45, if_lt (by omega), if_neg q, show (0 : Int32) = iI 0 from rfl, u1, l1, iI_add]
      rfl
  · rintro x T ⟨rfl, A1, A2⟩ rec
    unfold b_X2_fillSums_16_28_7
    rw [l6, lt_f (by omega)]
    exact ⟨T, rfl, A1, A2⟩
  · rw [gI_sI_k, show m = 0 by simpa using hm, if_pos (show (0 : Nat) = Int.toNat 0 from rfl)]
    rfl
