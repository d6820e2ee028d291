/-! clear: the class's halving -/
def GI (S T : St) : Prop := ∀ a b, gI T a b = gI S a b
theorem GI.rx {S T : St} {D : Nat → Nat → Int} (h : GI S T) (X : RX S D) : RX T D := by
  obtain ⟨s1, s2⟩ := S
  obtain ⟨t1, t2⟩ := T
  have e : t1 = s1 := funext fun a => funext fun b => h a b
  subst e
  exact X
theorem GI.rm {S T : St} {D : Nat → Nat → Int} (h : GI S T) (X : Vw S D) : Vw T D := by
  obtain ⟨s1, s2⟩ := S
  obtain ⟨t1, t2⟩ := T
  have e : t1 = s1 := funext fun a => funext fun b => h a b
  subst e
  exact X
theorem lN_L (n : Nat) : lN n = lL (n : Int) := Int64.ofInt_eq_ofNat.symm
theorem lL_eq {α : Type} {x y : α} {a b : Int} (h : -9223372036854775808 ≤ a ∧ a < 9223372036854775808 ∧ -9223372036854775808 ≤ b ∧ b < 9223372036854775808) : (if lg_cmp (lL a) (lL b) = 0 then x else y) = if a = b then x else y := by
  have e : lg_cmp (lL a) (lL b) = 0 ↔ a = b := by rw [lg_cmp_eq, ← Int64.toInt_inj, lL_toInt (by omega), lL_toInt (by omega)]
  by_cases g : a = b
  · rw [if_pos g, if_pos (e.mpr g)]
  · rw [if_neg g, if_neg (fun z => g (e.mp z))]
theorem x_red {S0 : St} {kk : St → Option St} : ∀ (k n a b : Nat) (S : St), k ≤ 48 → k < n → a < 4611686018427387904 → b < 4611686018427387904 → GI S0 S → gL S 0 0 = lN a → gL S 1 0 = lN b → ∃ T, it1 (b_X0_reduce_2 kk) n (iI ((48 - k : Nat) : Int)) S = kk T ∧ GI S0 T ∧ gL T 0 0 = lN (red k a b).1 ∧ gL T 1 0 = lN (red k a b).2 := by
  intro k
  induction k with
  | zero =>
    intro n a b S h1 h2 ha hb G e0 e1
    obtain ⟨n, rfl⟩ : ∃ j, n = j + 1 := ⟨n - 1, by omega⟩
    refine ⟨S, ?_, G, e0, e1⟩
    rw [it1_s]
    unfold b_X0_reduce_2
    rw [l48, lt_f (by omega)]
  | succ k ih =>
    intro n a b S h1 h2 ha hb G e0 e1
    obtain ⟨n, rfl⟩ : ∃ j, n = j + 1 := ⟨n - 1, by omega⟩
    have hs : ((((1 : Int32)).toInt64 &&& 63).toBitVec.smod 64).toNat = 1 := by decide +kernel
    have e : b_X0_reduce_2 kk (it1 (b_X0_reduce_2 kk) n) (iI ((48 - (k + 1) : Nat) : Int)) S = if 1 < b ∧ a % 2 = 0 then it1 (b_X0_reduce_2 kk) n (iI ((48 - k : Nat) : Int)) (sL (sL S 0 0 (lN (a / 2))) 1 0 (lN (b / 2))) else kk S := by
      generalize it1 (b_X0_reduce_2 kk) n = rec
      unfold b_X0_reduce_2
      rw [l48, lt_t (by omega), e0, e1, show (1 : Int64) = lL 1 from rfl, lN_L b, lL_gt (by omega)]
      by_cases q1 : 1 < b
      · rw [if_pos (show (1 : Int) < (b : Int) by omega), show lL 1 = (1 : Int64) from rfl, g_and1 (by omega), show (0 : Int64) = lL 0 from rfl, lN_L (a % 2), lL_eq (by omega)]
        by_cases q2 : a % 2 = 0
        · rw [if_pos (show ((a % 2 : Nat) : Int) = 0 by omega), if_pos ⟨q1, q2⟩, nm_eq, nm_eq, pf_shr hs (by omega), gL_sL, if_neg (by decide), e1, pf_shr hs (by omega), show iI ((48 - (k + 1) : Nat) : Int) + 1 = iI (((48 - (k + 1) : Nat) : Int) + 1) from iI_add _ 1, show (((48 - (k + 1) : Nat) : Int) + 1) = ((48 - k : Nat) : Int) by omega]
        · rw [if_neg (show ¬ ((a % 2 : Nat) : Int) = 0 by omega), if_neg (fun g => q2 g.2)]
      · rw [if_neg (show ¬ (1 : Int) < (b : Int) by omega), if_neg (fun g => q1 g.1)]
    rw [it1_s, e, red]
    by_cases q : 1 < b ∧ a % 2 = 0
    · rw [if_pos q, if_pos q]
      exact ih n (a / 2) (b / 2) _ (by omega) (by omega) (by omega) (by omega) (fun i j => (G i j)) (by rw [gL_sL, if_neg (by decide), gL_sL, if_pos rfl, if_pos rfl]) (by rw [gL_sL, if_pos rfl, if_pos rfl])
    · rw [if_neg q, if_neg q]
      exact ⟨S, rfl, G, e0, e1⟩
theorem x_reduce {S : St} {a e : Nat} (ha : a < 4611686018427387904) (he : e ≤ 48) (e0 : gL S 0 0 = lN a) (e1 : gL S 1 0 = lN (2 ^ e)) : ∃ T, m_X0_reduce S = some T ∧ GI S T ∧ gL T 0 0 = lN (a / Nat.gcd a (2 ^ e)) ∧ gL T 1 0 = lN (2 ^ e / Nat.gcd a (2 ^ e)) := by
  have hp : 2 ^ e ≤ 2 ^ 48 := Nat.pow_le_pow_right (by omega) he
  unfold m_X0_reduce
  obtain ⟨T, t1, t2, t3, t4⟩ := x_red (S0 := S) (kk := fun S3 => some S3) 48 5000 a (2 ^ e) S (by omega) (by omega) ha (by omega) (fun _ _ => rfl) e0 e1
  rw [red_gcd e 48 a he] at t3 t4
  exact ⟨T, t1, t2, t3, t4⟩
