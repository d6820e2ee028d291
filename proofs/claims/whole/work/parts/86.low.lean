/-! clear: the reference's lowest -/
theorem lN_div {a b : Nat} (ha : a < 4611686018427387904) (hb : b < 4611686018427387904) : lN a / lN b = lN (a / b) := by
  rw [lN_L, lN_L, lN_L]
  exact (Int64.ofInt_tdiv (a := (a : Int)) (b := (b : Int)) (show (-9223372036854775808 : Int) ≤ a by omega) (show (a : Int) ≤ (9223372036854775807 : Int) by omega) (show (-9223372036854775808 : Int) ≤ b by omega) (show (b : Int) ≤ (9223372036854775807 : Int) by omega)).symm
theorem lL_sub (a b : Int) : lL a - lL b = lL (a - b) := (Int64.ofInt_sub a b).symm
theorem lN_mod {a b : Nat} (ha : a < 4611686018427387904) (hb : b < 4611686018427387904) : lN a - lN a / lN b * lN b = lN (a % b) := by
  have h := Nat.div_add_mod a b
  rw [lN_div ha hb, lN_L, lN_L, lN_L, lN_L, lL_mul, lL_sub]
  congr 1
  have h2 : ((a / b : Nat) : Int) * (b : Int) = ((b * (a / b) : Nat) : Int) := by rw [Nat.mul_comm]; exact (Int.natCast_mul _ _).symm
  rw [h2]
  omega
theorem lN_0 {b : Nat} (hb : b < 4611686018427387904) (h : b ≠ 0) : lN b ≠ 0 := fun g => by
  have e : (lN b).toInt = (0 : Int64).toInt := by rw [g]
  rw [lN_L, lL_toInt (by omega)] at e
  have : (0 : Int64).toInt = 0 := rfl
  omega
theorem low_st {S : St} {x0 x2 : Int64} {x4 : Int32} {kk : Int64 → St → Option (Int64 × St)} {n a b : Nat} (ha : a < 4611686018427387904) (hb : b < 4611686018427387904) : it2 (b_X7_lowest_6 x0 x2 x4 kk) (n + 1) (lN a) (lN b) S = if b = 0 then kk (lN a) S else it2 (b_X7_lowest_6 x0 x2 x4 kk) n (lN b) (lN (a % b)) S := by
  rw [it2_s]
  generalize it2 (b_X7_lowest_6 x0 x2 x4 kk) n = rec
  unfold b_X7_lowest_6
  rw [show (0 : Int64) = lL 0 from rfl, show lg_cmp (lN b) (lL 0) = lg_cmp (lL (b : Int)) (lL 0) by rw [lN_L], lL_eq (by omega)]
  by_cases q : b = 0
  · rw [if_pos (show (b : Int) = 0 by omega), if_pos q]
  · rw [if_neg (show ¬ (b : Int) = 0 by omega), if_neg q, dchkL_t (lN_0 hb q), lN_mod ha hb, nm_eq]
theorem low_gcd {S : St} {x0 x2 : Int64} {x4 : Int32} {kk : Int64 → St → Option (Int64 × St)} : ∀ (k n a b : Nat), b < 2 ^ k → 2 * k < n → a < 4611686018427387904 → b < 4611686018427387904 → it2 (b_X7_lowest_6 x0 x2 x4 kk) n (lN a) (lN b) S = kk (lN (Nat.gcd a b)) S
  | 0, n, a, b, hb, hn, la, lb => by
    obtain ⟨n, rfl⟩ : ∃ j, n = j + 1 := ⟨n - 1, by omega⟩
    have e : b = 0 := by simpa using hb
    rw [low_st la lb, if_pos e, e, Nat.gcd_zero_right]
  | k + 1, n, a, b, hb, hn, la, lb => by
    obtain ⟨n, rfl⟩ : ∃ j, n = j + 1 + 1 := ⟨n - 2, by omega⟩
    by_cases q : b = 0
    · rw [low_st la lb, if_pos q, q, Nat.gcd_zero_right]
    · have hr : a % b < b := Nat.mod_lt _ (by omega)
      have g1 : Nat.gcd a b = Nat.gcd b (a % b) := by rw [Nat.gcd_comm a b, Nat.gcd_rec b a, Nat.gcd_comm]
      rw [low_st la lb, if_neg q, low_st lb (by omega)]
      by_cases q2 : a % b = 0
      · rw [if_pos q2, g1, q2, Nat.gcd_zero_right]
      · have h4 : b % (a % b) < a % b := Nat.mod_lt _ (by omega)
        have h3 : b % (a % b) < 2 ^ k := by
          rw [Nat.pow_succ] at hb
          by_cases q3 : a % b ≤ 2 ^ k
          · omega
          · have : b % (a % b) = b - a % b := by
              rw [Nat.mod_eq_sub_mod (by omega), Nat.mod_eq_of_lt (by omega)]
            omega
        have g2 : Nat.gcd b (a % b) = Nat.gcd (a % b) (b % (a % b)) := by rw [Nat.gcd_comm b (a % b), Nat.gcd_rec (a % b) b, Nat.gcd_comm]
        rw [if_neg q2, low_gcd k n (a % b) (b % (a % b)) h3 (by omega) (by omega) (by omega), g1, g2]
theorem m_low {S : St} {a b : Nat} {w : Int} (ha : a < 4611686018427387904) (hb : b < 4611686018427387904) (h0 : 0 < b) (hw : 0 ≤ w ∧ w < 2) : m_X7_lowest (lN a) (lN b) (iI w) S = some (lN (if w = 0 then a / Nat.gcd a b else b / Nat.gcd a b), S) := by
  have hg : Nat.gcd a b ≤ b := Nat.gcd_le_right _ h0
  have hg0 : 0 < Nat.gcd a b := Nat.gcd_pos_of_pos_right _ h0
  unfold m_X7_lowest
  rw [low_gcd 62 5000 a b (by omega) (by omega) ha hb]
  rcases (show w = 0 ∨ w = 1 by omega) with rfl | rfl
  · rw [eq0_t rfl, dchkL_t (lN_0 (by omega) (by omega)), lN_div ha (by omega), if_pos rfl]
  · rw [eq0_f (by omega), dchkL_t (lN_0 (by omega) (by omega)), lN_div hb (by omega), if_neg (by decide)]
