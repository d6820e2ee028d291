theorem x_fill21 {S : St} : ∃ T, m_J7_fill_d0a16_21 (0 : Int64) S = some T ∧ GI S T ∧ ∀ j, j < 13 → gL T 21 j = lL 0 := by
  unfold m_J7_fill_d0a16_21
  refine it1_inv (fun i x T => x = iI (i : Int) ∧ GI S T ∧ ∀ j, j < i → gL T 21 j = lL 0) 13 (fun o => ∃ T, o = some T ∧ GI S T ∧ ∀ j, j < 13 → gL T 21 j = lL 0) ?_ ?_ 5000 0 _ _ (Nat.zero_le _) (by omega) ⟨rfl, fun _ _ => rfl, fun k hk => absurd hk (Nat.not_lt_zero _)⟩
  · rintro i x T hi ⟨rfl, A1, A2⟩ rec
    refine ⟨iI ((i + 1 : Nat) : Int), sL T 21 i (lL 0), ⟨rfl, A1, fun k hk => ?_⟩, ?_⟩
    · rw [gL_k]
      by_cases e : k = i
      · rw [if_pos e]
      · rw [if_neg e]; exact A2 k (by omega)
    · unfold b_J7_fill_d0a16_21_6
      rw [l13, lt_t (by omega), chk_t (by omega), ix_n (by omega), nm_eq, l1, iI_add]
      rfl
  · rintro x T ⟨rfl, A1, A2⟩ rec
    unfold b_J7_fill_d0a16_21_6
    rw [l13, lt_f (by omega)]
    exact ⟨T, rfl, A1, A2⟩
theorem x_cw {S : St} {n cl : Nat} (hn : n ≤ 12) (hc : cl ≤ 16) : ∃ T, m_X0_countWays (iI (n : Nat)) (iI (cl : Nat)) S = some T ∧ GI S T ∧ (∀ j, j < 13 → gL T 21 j = lL (wys cl n j : Nat)) ∧ gL T 1 0 = lL ((16 ^ n : Nat) : Int) := by
  obtain ⟨F, f1, f2, f3⟩ := x_fill21 (S := S)
  unfold m_X0_countWays
  rw [f1, bndV_some, l0, chk_t (by omega), nm_eq, nm_eq, ix_iI (by omega) (by omega), show (0 : Int).toNat = 0 from rfl]
  refine it1_inv (fun i x T => x = iI (i : Int) ∧ GI S T ∧ (∀ j, j < 13 → gL T 21 j = lL (wys cl i j : Nat)) ∧ gL T 1 0 = lL ((16 ^ i : Nat) : Int)) n (fun q => ∃ T, q = some T ∧ GI S T ∧ (∀ j, j < 13 → gL T 21 j = lL (wys cl n j : Nat)) ∧ gL T 1 0 = lL ((16 ^ n : Nat) : Int)) ?_ ?_ 5000 0 _ _ (by omega) (by omega) ⟨rfl, f2, fun j hj => ?_, by rw [gL_k, if_pos rfl]; rfl⟩
  · rintro i x T hi ⟨rfl, A1, A2, A3⟩ rec
    obtain ⟨U, u1, u2, u3, u4, u5⟩ := x_cw1 (x1 := iI (n : Nat)) (x3 := iI (i : Int)) hc A1 A2 A3 (kk := fun S6 => chk (0 : Int32) 13 <| chk (0 : Int32) 13 <| nm (sL S6 21 (ix (0 : Int32)) ((gL S6 21 (ix (0 : Int32))) * (iI (cl : Nat)).toInt64)) fun S7 => nm (sL S7 1 0 ((gL S7 1 0) * (16 : Int64))) fun S8 => rec (iI (i : Int) + 1) S8)
    refine ⟨iI ((i + 1 : Nat) : Int), sL (sL U 21 0 (lL (wys cl (i + 1) 0 : Nat))) 1 0 (lL ((16 ^ (i + 1) : Nat) : Int)), ⟨rfl, u2, fun j hj => ?_, by rw [gL_k, if_pos rfl]⟩, ?_⟩
    · rw [gL_n (by decide), gL_k]
      by_cases e : j = 0
      · rw [if_pos e, e]
      · rw [if_neg e]; exact u3 j (by omega) hj
    · unfold b_X0_countWays_22
      rw [lt_t (by omega), u1, l0, chk_t (by omega), chk_t (by omega), nm_eq, nm_eq, ix_iI (by omega) (by omega), show (0 : Int).toNat = 0 from rfl, u4, gL_n (by decide), u5, lL_of (by omega), lL_mul, wys_i0, show (16 : Int64) = lL 16 from rfl, lL_mul, l1, iI_add, Nat.pow_succ]
      rfl
  · rintro x T ⟨rfl, A1, A2, A3⟩ rec
    unfold b_X0_countWays_22
    rw [lt_f (by omega)]
    exact ⟨T, rfl, A1, A2, A3⟩
  · rw [gL_n (by decide), gL_k, wys]
    by_cases e : j = 0
    · rw [if_pos e, if_pos e]; rfl
    · rw [if_neg e, if_neg e]; exact f3 j hj
def sn (f : Nat → Nat) : Nat → Nat
  | 0 => 0
  | n + 1 => sn f n + f n
theorem sn_le {f : Nat → Nat} {b : Nat} : ∀ {n : Nat}, (∀ k, f k ≤ b) → sn f n ≤ n * b
  | 0, _ => by simp [sn]
  | n + 1, h => by
    have h1 := sn_le (n := n) h
    have h2 := h n
    rw [sn, Nat.succ_mul]
    omega
/-- the ways that at least z of n hours are clear -/
def abv (cl n z : Nat) : Nat := sn (fun t => wys cl n (z + t)) (13 - z)
theorem abv_lt {cl n z : Nat} (hc : cl ≤ 16) (hn : n ≤ 12) : abv cl n z < 4611686018427387904 := by
  have h1 := sn_le (f := fun t => wys cl n (z + t)) (b := 16 ^ 12) (n := 13 - z) (fun k => Nat.le_trans (wys_le hc n (z + k)) (Nat.pow_le_pow_right (by omega) hn))
  have h2 : (13 - z) * 16 ^ 12 ≤ 13 * 16 ^ 12 := Nat.mul_le_mul_right _ (by omega)
  unfold abv
  omega
