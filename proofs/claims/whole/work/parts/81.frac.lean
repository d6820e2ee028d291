/-! PURE: a fraction over a power of two in its lowest terms: halving, and by the greatest common divisor -/
def red : Nat → Nat → Nat → Nat × Nat
  | 0, a, b => (a, b)
  | k + 1, a, b => if 1 < b ∧ a % 2 = 0 then red k (a / 2) (b / 2) else (a, b)
theorem gcd_odd {a : Nat} (h : a % 2 = 1) (e : Nat) : Nat.gcd a (2 ^ e) = 1 := by
  have h2 : Nat.Coprime a 2 := by
    show Nat.gcd a 2 = 1
    rw [Nat.gcd_comm, Nat.gcd_rec, h]
    rfl
  exact Nat.Coprime.pow_right e h2
theorem red_gcd : ∀ (e k a : Nat), e ≤ k → red k a (2 ^ e) = (a / Nat.gcd a (2 ^ e), 2 ^ e / Nat.gcd a (2 ^ e))
  | 0, k, a, _ => by
    have e1 : red k a (2 ^ 0) = (a, 2 ^ 0) := by
      cases k with
      | zero => rfl
      | succ k => rw [red, if_neg (by omega)]
    rw [e1]
    simp
  | e + 1, 0, a, h => by omega
  | e + 1, k + 1, a, h => by
    have hp : 0 < 2 ^ e := Nat.two_pow_pos e
    have h2 : 2 ^ (e + 1) = 2 * 2 ^ e := Nat.pow_succ'
    rw [red]
    by_cases q : a % 2 = 0
    · obtain ⟨m, rfl⟩ : ∃ m, a = 2 * m := ⟨a / 2, by omega⟩
      rw [if_pos ⟨by omega, q⟩, h2, Nat.mul_div_cancel_left _ (by omega), Nat.mul_div_cancel_left _ (by omega), red_gcd e k m (by omega), Nat.gcd_mul_left, Nat.mul_div_mul_left _ _ (by omega), Nat.mul_div_mul_left _ _ (by omega)]
    · rw [if_neg (fun g => q g.2), gcd_odd (by omega), Nat.div_one, Nat.div_one]
/-- Euclid's walk -/
def euc : Nat → Nat → Nat → Nat
  | 0, a, _ => a
  | n + 1, a, b => if b = 0 then a else euc n b (a % b)
theorem euc_gcd : ∀ (k n a b : Nat), b < 2 ^ k → 2 * k < n → euc n a b = Nat.gcd a b ∧ ∃ m, m < n ∧ euc m a b = Nat.gcd a b
  | 0, n, a, b, hb, hn => by
    obtain ⟨n, rfl⟩ : ∃ j, n = j + 1 := ⟨n - 1, by omega⟩
    have e : b = 0 := by simpa using hb
    subst e
    refine ⟨?_, 0, by omega, ?_⟩
    · rw [euc, if_pos rfl, Nat.gcd_zero_right]
    · rw [euc, Nat.gcd_zero_right]
  | k + 1, n, a, b, hb, hn => by
    obtain ⟨n, rfl⟩ : ∃ j, n = j + 1 + 1 := ⟨n - 2, by omega⟩
    by_cases q : b = 0
    · subst q
      refine ⟨?_, 0, by omega, ?_⟩
      · rw [euc, if_pos rfl, Nat.gcd_zero_right]
      · rw [euc, Nat.gcd_zero_right]
    · have hr : a % b < b := Nat.mod_lt _ (by omega)
      have g1 : Nat.gcd a b = Nat.gcd b (a % b) := by rw [Nat.gcd_comm a b, Nat.gcd_rec b a, Nat.gcd_comm]
      by_cases q2 : a % b = 0
      · rw [euc, if_neg q, euc, if_pos q2, g1, q2, Nat.gcd_zero_right]
        refine ⟨rfl, 1, by omega, ?_⟩
        rw [euc, if_neg q, euc]
      · have h3 : b % (a % b) < 2 ^ k := by
          have h4 : b % (a % b) < a % b := Nat.mod_lt _ (by omega)
          rw [Nat.pow_succ] at hb
          by_cases q3 : a % b ≤ 2 ^ k
          · omega
          · have : b % (a % b) = b - a % b := by
              rw [Nat.mod_eq_sub_mod (by omega), Nat.mod_eq_of_lt (by omega)]
            omega
        have g2 : Nat.gcd b (a % b) = Nat.gcd (a % b) (b % (a % b)) := by rw [Nat.gcd_comm b (a % b), Nat.gcd_rec (a % b) b, Nat.gcd_comm]
        obtain ⟨ih1, m, ih2, ih3⟩ := euc_gcd k n (a % b) (b % (a % b)) h3 (by omega)
        refine ⟨?_, m + 1 + 1, by omega, ?_⟩
        · rw [euc, if_neg q, euc, if_neg q2, ih1, g1, g2]
        · rw [euc, if_neg q, euc, if_neg q2, ih3, g1, g2]
/-- the ways that j of k hours are clear -/
def wys (cl : Nat) : Nat → Nat → Nat
  | 0, j => if j = 0 then 1 else 0
  | k + 1, j => wys cl k j * cl + (if j = 0 then 0 else wys cl k (j - 1) * (16 - cl))
theorem wys_0 (cl : Nat) : ∀ k j, k < j → wys cl k j = 0
  | 0, j, h => by rw [wys, if_neg (by omega)]
  | k + 1, j, h => by rw [wys, wys_0 cl k j (by omega), if_neg (by omega), wys_0 cl k (j - 1) (by omega)]; simp
theorem wys_le {cl : Nat} (hc : cl ≤ 16) : ∀ k j, wys cl k j ≤ 16 ^ k
  | 0, j => by rw [wys]; split <;> omega
  | k + 1, j => by
    have h1 := Nat.mul_le_mul_right cl (wys_le hc k j)
    have h2 := Nat.mul_le_mul_right (16 - cl) (wys_le hc k (j - 1))
    have h3 : 16 ^ k * cl + 16 ^ k * (16 - cl) = 16 ^ (k + 1) := by rw [← Nat.mul_add, Nat.pow_succ, show cl + (16 - cl) = 16 by omega]
    rw [wys]
    split <;> omega
