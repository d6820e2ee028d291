theorem p16n (n : Nat) : 16 ^ n = 2 ^ (4 * n) := by rw [Nat.pow_mul]
theorem x_atl {S : St} {n cl z : Nat} (hn : n ≤ 12) (hc : cl ≤ 16) (hz : z ≤ 12) : ∃ T, m_X0_takeAtLeast (iI (n : Nat)) (iI (cl : Nat)) (iI (z : Nat)) S = some T ∧ GI S T ∧ gL T 0 0 = lN (abv cl n z / Nat.gcd (abv cl n z) (2 ^ (4 * n))) ∧ gL T 1 0 = lN (2 ^ (4 * n) / Nat.gcd (abv cl n z) (2 ^ (4 * n))) := by
  obtain ⟨F, f1, f2, f3, f4⟩ := x_cw (S := S) hn hc
  unfold m_X0_takeAtLeast
  rw [f1, bndV_some, nm_eq]
  refine it1_inv (fun i x T => x = iI ((z + i : Nat) : Int) ∧ GI S T ∧ (∀ j, j < 13 → gL T 21 j = lL (wys cl n j : Nat)) ∧ gL T 1 0 = lL ((16 ^ n : Nat) : Int) ∧ gL T 0 0 = lL ((sn (fun t => wys cl n (z + t)) i : Nat) : Int)) (13 - z) (fun q => ∃ T, q = some T ∧ GI S T ∧ gL T 0 0 = lN (abv cl n z / Nat.gcd (abv cl n z) (2 ^ (4 * n))) ∧ gL T 1 0 = lN (2 ^ (4 * n) / Nat.gcd (abv cl n z) (2 ^ (4 * n)))) ?_ ?_ 5000 0 _ _ (by omega) (by omega) ⟨rfl, f2, fun j hj => by rw [gL_n (by decide)]; exact f3 j hj, by rw [gL_n (by decide)]; exact f4, by rw [gL_k, if_pos rfl]; rfl⟩
  · rintro i x T hi ⟨rfl, A1, A2, A3, A4⟩ rec
    refine ⟨iI ((z + (i + 1) : Nat) : Int), sL T 0 0 (lL ((sn (fun t => wys cl n (z + t)) (i + 1) : Nat) : Int)), ⟨rfl, A1, fun j hj => by rw [gL_n (by decide)]; exact A2 j hj, by rw [gL_n (by decide)]; exact A3, by rw [gL_k, if_pos rfl]⟩, ?_⟩
    unfold b_X0_takeAtLeast_14
    rw [l12, lt_f (by omega), chk_t (by omega), ix_n (by omega), A4, A2 _ (by omega), lL_add, nm_eq, l1, iI_add, sn]
    rfl
  · rintro x T ⟨rfl, A1, A2, A3, A4⟩ rec
    obtain ⟨U, u1, u2, u3, u4⟩ := x_reduce (S := T) (a := abv cl n z) (e := 4 * n) (abv_lt hc hn) (by omega) (by rw [A4, lN_L]; rfl) (by rw [A3, lN_L, p16n])
    unfold b_X0_takeAtLeast_14
    rw [l12, lt_t (by omega)]
    dsimp only
    rw [u1, bndV_some]
    exact ⟨U, rfl, fun a b => (u2 a b).trans (A1 a b), u3, u4⟩
theorem x_mean {S : St} {n cl : Nat} (hn : n ≤ 12) (hc : cl ≤ 16) : ∃ T, m_X0_takeMean (iI (n : Nat)) (iI (cl : Nat)) S = some T ∧ GI S T ∧ gL T 0 0 = lN (n * (16 - cl) / Nat.gcd (n * (16 - cl)) (2 ^ 4)) ∧ gL T 1 0 = lN (2 ^ 4 / Nat.gcd (n * (16 - cl)) (2 ^ 4)) := by
  have hb : n * (16 - cl) ≤ 12 * 16 := Nat.mul_le_mul hn (by omega)
  have hi : (n : Int) * (16 - (cl : Int)) = ((n * (16 - cl) : Nat) : Int) := by
    push_cast
    rw [show ((16 - cl : Nat) : Int) = 16 - (cl : Int) by omega]
  unfold m_X0_takeMean
  rw [l16, iI_sub, iI_mul, hi, lL_of (by omega), nm_eq, nm_eq]
  obtain ⟨U, u1, u2, u3, u4⟩ := x_reduce (S := sL (sL S 0 0 (lL ((n * (16 - cl) : Nat) : Int))) 1 0 (16 : Int64)) (a := n * (16 - cl)) (e := 4) (by omega) (by omega) (by rw [gL_n (by decide), gL_k, if_pos rfl, lN_L]) (by rw [gL_k, if_pos rfl]; rfl)
  rw [u1, bndV_some]
  exact ⟨U, rfl, u2, u3, u4⟩
def clN (D : Nat → Nat → Int) (c s : Nat) (z : Int) : Nat := if z = -1 then hr (wD D) (hD D) (D 3) c s * (16 - (D 6 s).toNat) else abv (D 6 s).toNat (hr (wD D) (hD D) (D 3) c s) z.toNat
def clE (D : Nat → Nat → Int) (c s : Nat) (z : Int) : Nat := if z = -1 then 4 else 4 * hr (wD D) (hD D) (D 3) c s
/-- a clear sky's chance or mean in lowest terms: above (a = 0) or below the line -/
def clV (D : Nat → Nat → Int) (c s : Nat) (z a : Int) : Nat := if a = 0 then clN D c s z / Nat.gcd (clN D c s z) (2 ^ clE D c s z) else 2 ^ clE D c s z / Nat.gcd (clN D c s z) (2 ^ clE D c s z)
theorem x_clear {S : St} {D : Nat → Nat → Int} (R : Rg D) (X : RX S D) {c s : Nat} {z a : Int} (hc : c < ND D) (hs : s < 4) (hz : -1 ≤ z ∧ z ≤ 12) (ha : 0 ≤ a ∧ a < 2) : ∃ T, m_X6_clear (iI c) (iI s) (iI z) (iI a) S = some (lN (clV D c s z a), T) ∧ RX T D := by
  have hN := ND_le (D := D)
  have hh := hr_le (wD D) (hD D) (D 3) c s
  have r6 : 0 ≤ D 6 s ∧ D 6 s ≤ 16 := R 6 s
  have e6 : gI S 31 s = iI (((D 6 s).toNat : Nat) : Int) := by rw [show (((D 6 s).toNat : Nat) : Int) = D 6 s by omega]; exact X.1 6 s hs
  unfold m_X6_clear m_X0_above m_X0_below clV clN clE
  rw [x_isCell X (by omega), bnd_some, ite01, if_pos (by omega), l4, x_below (by omega), bnd_some, ite01, if_pos (by omega)]
  by_cases q : z = -1
  · obtain ⟨T, t1, t2, t3, t4⟩ := x_mean (S := S) (n := hr (wD D) (hD D) (D 3) c s) (cl := (D 6 s).toNat) hh (by omega)
    refine ⟨T, ?_, t2.rx X⟩
    rw [eqm_t q, l2, x_below (by omega), bnd_some, ite01, if_pos ha, x_hoursOf X hc hs, bnd_some, eqm_t q, chk_t (by omega), ix_n (by omega), e6, ← iI_n, t1, bndV_some, if_pos q, if_pos q]
    rcases (show a = 0 ∨ a = 1 by omega) with rfl | rfl
    · rw [eq0_t rfl, bnd_some, if_pos rfl, t3]
    · rw [eq0_f (by omega), bnd_some, if_neg (by decide), t4]
  · obtain ⟨k, rfl⟩ : ∃ k : Nat, z = k := ⟨z.toNat, by omega⟩
    obtain ⟨T, t1, t2, t3, t4⟩ := x_atl (S := S) (n := hr (wD D) (hD D) (D 3) c s) (cl := (D 6 s).toNat) (z := k) hh (by omega) (by omega)
    refine ⟨T, ?_, t2.rx X⟩
    rw [eqm_f (by omega), l13, x_below (by omega), bnd_some, ite01, if_pos (by omega), l2, x_below (by omega), bnd_some, ite01, if_pos ha, x_hoursOf X hc hs, bnd_some, eqm_f (by omega), chk_t (by omega), ix_n (by omega), e6, ← iI_n, t1, bndV_some, if_neg q, if_neg q, Int.toNat_natCast]
    rcases (show a = 0 ∨ a = 1 by omega) with rfl | rfl
    · rw [eq0_t rfl, bnd_some, if_pos rfl, t3]
    · rw [eq0_f (by omega), bnd_some, if_neg (by decide), t4]
