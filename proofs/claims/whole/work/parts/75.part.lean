/-! the class's parting: prepare, sums, the least difference -/
def Sm6 (S : St) (y : Nat → Int) (N : Nat) : Prop := (∀ m, m < 64 → gI S 15 m = iI (sb (fun i => yy y N (0 + i)) m 6)) ∧ ∀ m, m < 64 → gI S 16 m = iI (sb (fun i => yy y N (6 + i)) m 6)
theorem bs_0 {p : Nat → Bool} {n : Nat} (h : ¬ p n = true) : bs p (n + 1) = bs p n := by rw [bs, if_neg h, Nat.add_zero]
theorem bs_1 {p : Nat → Bool} {n : Nat} (h : p n = true) (hn : n < 31) : nI (bs p n) ||| ((1 : Int32) <<< (iI (n : Int) &&& 31)) = nI (bs p (n + 1)) := by rw [iI_n, bs_or p hn, bs, if_pos h]
theorem x_prep_14 {S : St} {w N : Nat} {y : Nat → Int} (hN : N ≤ 12) (hw : 0 < N → 1 ≤ w ∧ w ≤ 4) (h43 : gI S 43 0 = iI (N : Nat)) (h42 : gI S 42 0 = iI (w : Nat)) (h9 : ∀ c, c < N → gI S 9 c = iI ((c % w : Nat) : Int)) (hy : ∀ c, c < N → gI S 14 c = iI (y c)) : ∃ T, m_X2_prepare_2_14 S = some T ∧ Fr [45, 46, 47, 48, 49, 15, 16] S T ∧ Pp T w N ∧ Sm6 T y N := by
  have h0 : 0 < 2 ^ N := Nat.two_pow_pos N
  have e47 : (1 : Int32) <<< (iI (N : Nat) &&& 31) - (1 : Int32) = nI (2 ^ N - 1) := by
    rw [iI_n, one_shl N (by omega), ← iI_n, ← iI_n, l1, iI_sub, show (((2 ^ N : Nat) : Int) - 1) = ((2 ^ N - 1 : Nat) : Int) by omega]
  unfold m_X2_prepare_2_14 m_X1_cells m_X1_columns
  rw [bnd_some, h43, nm_eq, bnd_some, nm_eq, nm_eq, nm_eq, nm_eq, gI_sI_n (show (42 : Nat) ≠ 45 by decide), h42, gI_sI_n (show (45 : Nat) ≠ 46 by decide), gI_sI_k, if_pos rfl, e47]
  generalize hB : sI (sI (sI (sI (sI S 45 0 (iI (N : Nat))) 46 0 (iI (w : Nat))) 47 0 (nI (2 ^ N - 1))) 48 0 (0 : Int32)) 49 0 (0 : Int32) = B
  have FB : Fr [45, 46, 47, 48, 49, 15, 16] S B := by rw [← hB]; exact ((((Fr.rf.set (by decide)).set (by decide)).set (by decide)).set (by decide)).set (by decide)
  have b45 : gI B 45 0 = iI (N : Nat) := by rw [← hB, gI_sI_n (by decide), gI_sI_n (by decide), gI_sI_n (by decide), gI_sI_n (by decide), gI_sI_k, if_pos rfl]
  have b46 : gI B 46 0 = iI (w : Nat) := by rw [← hB, gI_sI_n (by decide), gI_sI_n (by decide), gI_sI_n (by decide), gI_sI_k, if_pos rfl]
  have b47 : gI B 47 0 = nI (2 ^ N - 1) := by rw [← hB, gI_sI_n (by decide), gI_sI_n (by decide), gI_sI_k, if_pos rfl]
  have b48 : gI B 48 0 = 0 := by rw [← hB, gI_sI_n (by decide), gI_sI_k, if_pos rfl]
  have b49 : gI B 49 0 = 0 := by rw [← hB, gI_sI_k, if_pos rfl]
  refine it1_inv (fun i x T => x = iI (i : Int) ∧ Fr [48, 49] B T ∧ gI T 48 0 = nI (bs (fun c => decide (c % w = 0)) i) ∧ gI T 49 0 = nI (bs (fun c => decide (c % w = w - 1)) i)) N (fun q => ∃ T, q = some T ∧ Fr [45, 46, 47, 48, 49, 15, 16] S T ∧ Pp T w N ∧ Sm6 T y N) ?_ ?_ 5000 0 _ B (by omega) (by omega) ⟨rfl, Fr.rf, b48, b49⟩
  · rintro i x T hi ⟨rfl, A1, A2, A3⟩ rec
    obtain ⟨w1, w2⟩ := hw (by omega)
    have hm : i % w < w := Nat.mod_lt _ (by omega)
    have e9 : gI T 9 i = iI ((i % w : Nat) : Int) := by rw [A1.1 _ _ (by decide), FB.1 _ _ (by decide)]; exact h9 i hi
    have e46 : ∀ z, gI (sI T 48 0 z) 46 0 = iI (w : Nat) := fun z => by rw [gI_sI_n (by decide), A1.1 _ _ (by decide), b46]
    have e49 : ∀ z, gI (sI T 48 0 z) 49 0 = nI (bs (fun c => decide (c % w = w - 1)) i) := fun z => by rw [gI_sI_n (by decide), A3]
    refine ⟨iI ((i + 1 : Nat) : Int), sI (sI T 48 0 (nI (bs (fun c => decide (c % w = 0)) (i + 1)))) 49 0 (nI (bs (fun c => decide (c % w = w - 1)) (i + 1))), ⟨rfl, (A1.set (by decide)).set (by decide), by rw [gI_sI_n (by decide), gI_sI_k, if_pos rfl], by rw [gI_sI_k, if_pos rfl]⟩, ?_⟩
    unfold b_X2_prepare_2_14_40 m_X1_columnOf
    rw [A1.1 45 0 (by decide), b45, lt_t (by omega), chk_t (by omega), ix_n (by omega), e9, bnd_some, A2]
    by_cases q0 : i % w = 0
    · have p0 : (fun c => decide (c % w = 0)) i = true := decide_eq_true q0
      rw [eq0_t (by omega), nm_eq, bs_1 p0 (by omega), e46, e49, show iI (w : Nat) - (1 : Int32) = iI ((w : Int) - 1) from iI_sub _ 1, if_eq (by omega)]
      by_cases q1 : i % w = w - 1
      · rw [if_pos (by omega), nm_eq, bs_1 (p := fun c => decide (c % w = w - 1)) (decide_eq_true q1) (by omega), l1, iI_add]; rfl
      · rw [if_neg (by omega), nm_eq, or_0, bs_0 (p := fun c => decide (c % w = w - 1)) (by simpa using q1), l1, iI_add]; rfl
    · have p0 : ¬ (fun c => decide (c % w = 0)) i = true := by simpa using q0
      rw [eq0_f (by omega), nm_eq, or_0, bs_0 p0, e46, e49, show iI (w : Nat) - (1 : Int32) = iI ((w : Int) - 1) from iI_sub _ 1, if_eq (by omega)]
      by_cases q1 : i % w = w - 1
      · rw [if_pos (by omega), nm_eq, bs_1 (p := fun c => decide (c % w = w - 1)) (decide_eq_true q1) (by omega), l1, iI_add]; rfl
      · rw [if_neg (by omega), nm_eq, or_0, bs_0 (p := fun c => decide (c % w = w - 1)) (by simpa using q1), l1, iI_add]; rfl
  · rintro x T ⟨rfl, A1, A2, A3⟩ rec
    have FT : Fr [45, 46, 47, 48, 49, 15, 16] S T := FB.tr (A1.mono (by decide))
    obtain ⟨U, u1, u2, u3⟩ := x_fs_15_14 (S := T) (y := y) hN (by rw [A1.1 _ _ (by decide), b45]) (fun c hc => by rw [FT.1 _ _ (by decide)]; exact hy c hc)
    obtain ⟨V, v1, v2, v3⟩ := x_fs_16_14 (S := U) (y := y) hN (by rw [u2.1 _ _ (by decide), A1.1 _ _ (by decide), b45]) (fun c hc => by rw [u2.1 _ _ (by decide), FT.1 _ _ (by decide)]; exact hy c hc)
    unfold b_X2_prepare_2_14_40
    rw [A1.1 45 0 (by decide), b45, lt_f (by omega)]
    dsimp only
    rw [u1, bndV_some, v1, bndV_some]
    refine ⟨V, rfl, (FT.tr (u2.mono (by decide))).tr (v2.mono (by decide)), ⟨?_, ?_, ?_, ?_⟩, fun m hm => ?_, v3⟩
    · rw [v2.1 _ _ (by decide), u2.1 _ _ (by decide), A1.1 _ _ (by decide), b46]
    · rw [v2.1 _ _ (by decide), u2.1 _ _ (by decide), A1.1 _ _ (by decide), b47]
    · rw [v2.1 _ _ (by decide), u2.1 _ _ (by decide), A2]; rfl
    · rw [v2.1 _ _ (by decide), u2.1 _ _ (by decide), A3]; rfl
    · rw [v2.1 _ _ (by decide)]; exact u3 m hm
theorem x_prep_28 {S : St} {w N : Nat} {y : Nat → Int} (hN : N ≤ 12) (hw : 0 < N → 1 ≤ w ∧ w ≤ 4) (h43 : gI S 43 0 = iI (N : Nat)) (h42 : gI S 42 0 = iI (w : Nat)) (h9 : ∀ c, c < N → gI S 9 c = iI ((c % w : Nat) : Int)) (hy : ∀ c, c < N → gI S 28 c = iI (y c)) : ∃ T, m_X2_prepare_2_28 S = some T ∧ Fr [45, 46, 47, 48, 49, 15, 16] S T ∧ Pp T w N ∧ Sm6 T y N := by
  have h0 : 0 < 2 ^ N := Nat.two_pow_pos N
  have e47 : (1 : Int32) <<< (iI (N : Nat) &&& 31) - (1 : Int32) = nI (2 ^ N - 1) := by
    rw [iI_n, one_shl N (by omega), ← iI_n, ← iI_n, l1, iI_sub, show (((2 ^ N : Nat) : Int) - 1) = ((2 ^ N - 1 : Nat) : Int) by omega]
  unfold m_X2_prepare_2_28 m_X1_cells m_X1_columns
  rw [bnd_some, h43, nm_eq, bnd_some, nm_eq, nm_eq, nm_eq, nm_eq, gI_sI_n (show (42 : Nat) ≠ 45 by decide), h42, gI_sI_n (show (45 : Nat) ≠ 46 by decide), gI_sI_k, if_pos rfl, e47]
  generalize hB : sI (sI (sI (sI (sI S 45 0 (iI (N : Nat))) 46 0 (iI (w : Nat))) 47 0 (nI (2 ^ N - 1))) 48 0 (0 : Int32)) 49 0 (0 : Int32) = B
  have FB : Fr [45, 46, 47, 48, 49, 15, 16] S B := by rw [← hB]; exact ((((Fr.rf.set (by decide)).set (by decide)).set (by decide)).set (by decide)).set (by decide)
  have b45 : gI B 45 0 = iI (N : Nat) := by rw [← hB, gI_sI_n (by decide), gI_sI_n (by decide), gI_sI_n (by decide), gI_sI_n (by decide), gI_sI_k, if_pos rfl]
  have b46 : gI B 46 0 = iI (w : Nat) := by rw [← hB, gI_sI_n (by decide), gI_sI_n (by decide), gI_sI_n (by decide), gI_sI_k, if_pos rfl]
  have b47 : gI B 47 0 = nI (2 ^ N - 1) := by rw [← hB, gI_sI_n (by decide), gI_sI_n (by decide), gI_sI_k, if_pos rfl]
  have b48 : gI B 48 0 = 0 := by rw [← hB, gI_sI_n (by decide), gI_sI_k, if_pos rfl]
  have b49 : gI B 49 0 = 0 := by rw [← hB, gI_sI_k, if_pos rfl]
  refine it1_inv (fun i x T => x = iI (i : Int) ∧ Fr [48, 49] B T ∧ gI T 48 0 = nI (bs (fun c => decide (c % w = 0)) i) ∧ gI T 49 0 = nI (bs (fun c => decide (c % w = w - 1)) i)) N (fun q => ∃ T, q = some T ∧ Fr [45, 46, 47, 48, 49, 15, 16] S T ∧ Pp T w N ∧ Sm6 T y N) ?_ ?_ 5000 0 _ B (by omega) (by omega) ⟨rfl, Fr.rf, b48, b49⟩
  · rintro i x T hi ⟨rfl, A1, A2, A3⟩ rec
    obtain ⟨w1, w2⟩ := hw (by omega)
    have hm : i % w < w := Nat.mod_lt _ (by omega)
    have e9 : gI T 9 i = iI ((i % w : Nat) : Int) := by rw [A1.1 _ _ (by decide), FB.1 _ _ (by decide)]; exact h9 i hi
    have e46 : ∀ z, gI (sI T 48 0 z) 46 0 = iI (w : Nat) := fun z => by rw [gI_sI_n (by decide), A1.1 _ _ (by decide), b46]
    have e49 : ∀ z, gI (sI T 48 0 z) 49 0 = nI (bs (fun c => decide (c % w = w - 1)) i) := fun z => by rw [gI_sI_n (by decide), A3]
    refine ⟨iI ((i + 1 : Nat) : Int), sI (sI T 48 0 (nI (bs (fun c => decide (c % w = 0)) (i + 1)))) 49 0 (nI (bs (fun c => decide (c % w = w - 1)) (i + 1))), ⟨rfl, (A1.set (by decide)).set (by decide), by rw [gI_sI_n (by decide), gI_sI_k, if_pos rfl], by rw [gI_sI_k, if_pos rfl]⟩, ?_⟩
    unfold b_X2_prepare_2_28_40 m_X1_columnOf
    rw [A1.1 45 0 (by decide), b45, lt_t (by omega), chk_t (by omega), ix_n (by omega), e9, bnd_some, A2]
    by_cases q0 : i % w = 0
    · have p0 : (fun c => decide (c % w = 0)) i = true := decide_eq_true q0
      rw [eq0_t (by omega), nm_eq, bs_1 p0 (by omega), e46, e49, show iI (w : Nat) - (1 : Int32) = iI ((w : Int) - 1) from iI_sub _ 1, if_eq (by omega)]
      by_cases q1 : i % w = w - 1
      · rw [if_pos (by omega), nm_eq, bs_1 (p := fun c => decide (c % w = w - 1)) (decide_eq_true q1) (by omega), l1, iI_add]; rfl
      · rw [if_neg (by omega), nm_eq, or_0, bs_0 (p := fun c => decide (c % w = w - 1)) (by simpa using q1), l1, iI_add]; rfl
    · have p0 : ¬ (fun c => decide (c % w = 0)) i = true := by simpa using q0
      rw [eq0_f (by omega), nm_eq, or_0, bs_0 p0, e46, e49, show iI (w : Nat) - (1 : Int32) = iI ((w : Int) - 1) from iI_sub _ 1, if_eq (by omega)]
      by_cases q1 : i % w = w - 1
      · rw [if_pos (by omega), nm_eq, bs_1 (p := fun c => decide (c % w = w - 1)) (decide_eq_true q1) (by omega), l1, iI_add]; rfl
      · rw [if_neg (by omega), nm_eq, or_0, bs_0 (p := fun c => decide (c % w = w - 1)) (by simpa using q1), l1, iI_add]; rfl
  · rintro x T ⟨rfl, A1, A2, A3⟩ rec
    have FT : Fr [45, 46, 47, 48, 49, 15, 16] S T := FB.tr (A1.mono (by decide))
    obtain ⟨U, u1, u2, u3⟩ := x_fs_15_28 (S := T) (y := y) hN (by rw [A1.1 _ _ (by decide), b45]) (fun c hc => by rw [FT.1 _ _ (by decide)]; exact hy c hc)
    obtain ⟨V, v1, v2, v3⟩ := x_fs_16_28 (S := U) (y := y) hN (by rw [u2.1 _ _ (by decide), A1.1 _ _ (by decide), b45]) (fun c hc => by rw [u2.1 _ _ (by decide), FT.1 _ _ (by decide)]; exact hy c hc)
    unfold b_X2_prepare_2_28_40
    rw [A1.1 45 0 (by decide), b45, lt_f (by omega)]
    dsimp only
    rw [u1, bndV_some, v1, bndV_some]
    refine ⟨V, rfl, (FT.tr (u2.mono (by decide))).tr (v2.mono (by decide)), ⟨?_, ?_, ?_, ?_⟩, fun m hm => ?_, v3⟩
    · rw [v2.1 _ _ (by decide), u2.1 _ _ (by decide), A1.1 _ _ (by decide), b46]
    · rw [v2.1 _ _ (by decide), u2.1 _ _ (by decide), A1.1 _ _ (by decide), b47]
    · rw [v2.1 _ _ (by decide), u2.1 _ _ (by decide), A2]; rfl
    · rw [v2.1 _ _ (by decide), u2.1 _ _ (by decide), A3]; rfl
    · rw [v2.1 _ _ (by decide)]; exact u3 m hm
def sS (y : Nat → Int) (N v : Nat) : Int := sm (fun c => if v.testBit c then yy y N c else 0) 12
theorem x_sumOf {S : St} {y : Nat → Int} {N v : Nat} (H : Sm6 S y N) (hv : v < 4096) : m_X2_sumOf (nI v) S = some (iI (sS y N v), S) := by
  have e1 : nI v &&& (63 : Int32) = iI ((v % 64 : Nat) : Int) := by rw [show (63 : Int32) = nI (2 ^ 6 - 1) from rfl, fa_mask, iI_n]
  have e2 : (nI v >>> ((6 : Int32) &&& 31)) &&& (63 : Int32) = iI ((v / 64 % 64 : Nat) : Int) := by rw [show ((6 : Int32) &&& 31) = (nI 6 &&& 31) from rfl, n_shr (by omega) (by omega), Nat.shiftRight_eq_div_pow, show (63 : Int32) = nI (2 ^ 6 - 1) from rfl, fa_mask, iI_n]
  unfold m_X2_sumOf
  rw [e1, e2, chk_t (by omega), chk_t (by omega), ix_n (by omega), ix_n (by omega), H.1 _ (by omega), H.2 _ (by omega), iI_add]
  have f1 : sb (fun i => yy y N (0 + i)) (v % 64) 6 = sm (fun c => if v.testBit c then yy y N c else 0) 6 := by
    refine sm_cong (fun i hi => ?_)
    rw [show v % 64 = v % 2 ^ 6 from rfl, Nat.testBit_mod_two_pow]
    simp [hi]
  have f2 : sb (fun i => yy y N (6 + i)) (v / 64 % 64) 6 = sm (fun j => (fun c => if v.testBit c then yy y N c else 0) (6 + j)) 6 := by
    refine sm_cong (fun i hi => ?_)
    rw [show v / 64 % 64 = (v / 2 ^ 6) % 2 ^ 6 from rfl, Nat.testBit_mod_two_pow, ← Nat.shiftRight_eq_div_pow, Nat.testBit_shiftRight]
    simp [hi]
  rw [f1, f2]
  unfold sS
  rw [show (12 : Nat) = 6 + 6 from rfl, sm_add]
theorem sS_dif {y : Nat → Int} {N v : Nat} (hN : N ≤ 12) (hv : v < 2 ^ N) : sS y N v - sS y N (2 ^ N - 1 - v) = sumP N y v := by
  unfold sS sumP
  rw [sm_sub, show (12 : Nat) = N + (12 - N) by omega, sm_add, sm_0 (n := 12 - N) (fun k _ => by
    have hz : yy y N (N + k) = 0 := by unfold yy; rw [if_neg (by omega)]
    simp [hz]), Int.add_zero]
  refine sm_cong (fun c hc => ?_)
  unfold yy
  rw [show 2 ^ N - 1 - v = 2 ^ N - (v + 1) by omega, Nat.testBit_two_pow_sub_succ hv, if_pos hc]
  by_cases q : v.testBit c = true
  · simp [q, hc]
  · simp [q, hc]
theorem sumP_bd {y : Nat → Int} {N v : Nat} (hN : N ≤ 12) (hy : ∀ c, c < N → 0 ≤ y c ∧ y c ≤ 4752) : -57024 ≤ sumP N y v ∧ sumP N y v ≤ 57024 := by
  have h := sm_bd (f := fun c => if v.testBit c then y c else -y c) (a := -4752) (b := 4752) (n := N) (fun k hk => by
    have := hy k hk
    split <;> omega)
  unfold sumP
  omega
theorem difP_bd {y : Nat → Int} {N v : Nat} (hN : N ≤ 12) (hy : ∀ c, c < N → 0 ≤ y c ∧ y c ≤ 4752) : 0 ≤ difP N y v ∧ difP N y v ≤ 57024 := by
  have h := sumP_bd (v := v) hN hy
  unfold difP
  split <;> omega
theorem x_diff {S : St} {y : Nat → Int} {w N v : Nat} (P : Pp S w N) (H : Sm6 S y N) (hN : N ≤ 12) (hv : v < 2 ^ N) (hy : ∀ c, c < N → 0 ≤ y c ∧ y c ≤ 4752) : m_X2_differenceOf (nI v) S = some (iI (difP N y v), S) := by
  have hp := pw12 hN
  have b := sumP_bd (v := v) hN hy
  unfold m_X2_differenceOf difP
  rw [x_sumOf H (by omega), bnd_some, P.2.1, n_xorm hN (by omega) hv, full_x hv, x_sumOf H (by omega), bnd_some, iI_sub, sS_dif hN hv]
  by_cases q : sumP N y v < 0
  · rw [if_neg (fun g => by have := (iI_le (a := 0) (b := sumP N y v) (by omega) (by omega) (by omega) (by omega)).mp g; omega), if_pos q, iI_0, iI_sub, Int.zero_sub]
  · rw [if_pos (show (0 : Int32) ≤ iI (sumP N y v) from (iI_le (a := 0) (b := sumP N y v) (by omega) (by omega) (by omega) (by omega)).mpr (by omega)), if_neg q]
theorem bst_c (ok : Nat → Bool) (df : Nat → Int) : ∀ i, bst ok df i = -1 ∨ ∃ j, j < i ∧ bst ok df i = ((2 * j + 1 : Nat) : Int)
  | 0 => Or.inl rfl
  | i + 1 => by
    rw [bst]
    split
    · exact Or.inr ⟨i, by omega, rfl⟩
    · rcases bst_c ok df i with h | ⟨j, h1, h2⟩
      · exact Or.inl h
      · exact Or.inr ⟨j, by omega, h2⟩
theorem odd_lt {N i : Nat} : i < (2 ^ N - 1) / 2 ↔ 2 * i + 1 < 2 ^ N - 1 := by
  rcases Nat.eq_zero_or_pos N with rfl | h
  · simp
  · obtain ⟨n, rfl⟩ : ∃ n, N = n + 1 := ⟨N - 1, by omega⟩
    rw [Nat.pow_succ]
    omega
theorem x_part {S : St} {y : Nat → Int} {w N : Nat} (hN : N ≤ 12) (hw : 0 < N → 1 ≤ w ∧ w ≤ 4) (hw4 : w ≤ 4) (h43 : gI S 43 0 = iI (N : Nat)) (h42 : gI S 42 0 = iI (w : Nat)) (h9 : ∀ c, c < N → gI S 9 c = iI ((c % w : Nat) : Int)) (hy : ∀ c, c < N → gI S 14 c = iI (y c)) (hb : ∀ c, c < N → 0 ≤ y c ∧ y c ≤ 4752) : ∃ T, m_X2_part_2_14 S = some T ∧ Fr [45, 46, 47, 48, 49, 15, 16, 50, 51] S T ∧ gI T 50 0 = iI (fpP w N y) ∧ gI T 51 0 = iI (if fpP w N y = -1 then -1 else difP N y (fpP w N y).toNat) := by
  have hp := pw12 hN
  obtain ⟨B, b1, b2, b3, b4⟩ := x_prep_14 hN hw h43 h42 h9 hy
  unfold m_X2_part_2_14
  rw [b1, bndV_some, nm_eq, nm_eq]
  have F0 : Fr [50, 51] B (sI (sI B 50 0 (-1 : Int32)) 51 0 (-1 : Int32)) := (Fr.rf.set (by decide)).set (by decide)
  refine it1_inv (fun i x T => x = iI ((2 * i + 1 : Nat) : Int) ∧ Fr [50, 51] B T ∧ gI T 50 0 = iI (bst (okP w N) (difP N y) i) ∧ gI T 51 0 = iI (if bst (okP w N) (difP N y) i = -1 then -1 else difP N y (bst (okP w N) (difP N y) i).toNat)) ((2 ^ N - 1) / 2) (fun q => ∃ T, q = some T ∧ Fr [45, 46, 47, 48, 49, 15, 16, 50, 51] S T ∧ gI T 50 0 = iI (fpP w N y) ∧ gI T 51 0 = iI (if fpP w N y = -1 then -1 else difP N y (fpP w N y).toNat)) ?_ ?_ 5000 0 _ _ (by omega) (by omega) ⟨rfl, F0, by rw [gI_sI_n (by decide), gI_sI_k, if_pos rfl]; rfl, by rw [gI_sI_k, if_pos rfl]; rfl⟩
  · rintro i x T hi ⟨rfl, A1, A2, A3⟩ rec
    have ho := odd_lt.mp hi
    have PT : Pp T w N := ⟨by rw [A1.1 _ _ (by decide)]; exact b3.1, by rw [A1.1 _ _ (by decide)]; exact b3.2.1, by rw [A1.1 _ _ (by decide)]; exact b3.2.2.1, by rw [A1.1 _ _ (by decide)]; exact b3.2.2.2⟩
    have HT : Sm6 T y N := ⟨fun m hm => by rw [A1.1 _ _ (by decide)]; exact b4.1 m hm, fun m hm => by rw [A1.1 _ _ (by decide)]; exact b4.2 m hm⟩
    have d1 := difP_bd (v := 2 * i + 1) hN hb
    have d2 := difP_bd (v := (bst (okP w N) (difP N y) i).toNat) hN hb
    have ex : m_X2_differenceOf (iI ((2 * i + 1 : Nat) : Int)) T = some (iI (difP N y (2 * i + 1)), T) := by rw [iI_n]; exact x_diff PT HT hN (by omega) hb
    have eb : m_X2_bothHang (iI ((2 * i + 1 : Nat) : Int)) T = some (if okP w N (2 * i + 1) = true then 1 else 0, T) := by rw [iI_n]; exact x_both PT hN hw4 (by omega)
    have e2 : iI ((2 * i + 1 : Nat) : Int) + 2 = iI ((2 * (i + 1) + 1 : Nat) : Int) := iI_add _ 2
    unfold b_X2_part_2_14_18
    rw [PT.2.1, ← iI_n, lt_t (by omega), ex, bnd_some, A3]
    by_cases q1 : bst (okP w N) (difP N y) i = -1
    · rw [if_pos q1, eqm_t rfl, eb, bnd_some, ite01]
      by_cases q2 : okP w N (2 * i + 1) = true
      · have en : bst (okP w N) (difP N y) (i + 1) = ((2 * i + 1 : Nat) : Int) := by rw [bst, if_pos ⟨Or.inl q1, q2⟩]
        refine ⟨_, _, ⟨rfl, ((A1.set (k := 51) (by decide)).set (k := 50) (by decide)), ?_, ?_⟩, by rw [if_pos q2, nm_eq, nm_eq, e2]⟩
        · rw [gI_sI_k, if_pos rfl, en]
        · rw [gI_sI_n (by decide), gI_sI_k, if_pos rfl, en, if_neg (by omega)]; rfl
      · have en : bst (okP w N) (difP N y) (i + 1) = bst (okP w N) (difP N y) i := by rw [bst, if_neg (fun g => q2 g.2)]
        exact ⟨_, _, ⟨rfl, A1, by rw [en]; exact A2, by rw [en]; exact A3⟩, by rw [if_neg q2, e2]⟩
    · rw [if_neg q1, eqm_f (by omega), if_lt (by omega)]
      by_cases q3 : difP N y (2 * i + 1) < difP N y (bst (okP w N) (difP N y) i).toNat
      · rw [if_pos q3, eb, bnd_some, ite01]
        by_cases q2 : okP w N (2 * i + 1) = true
        · have en : bst (okP w N) (difP N y) (i + 1) = ((2 * i + 1 : Nat) : Int) := by rw [bst, if_pos ⟨Or.inr q3, q2⟩]
          refine ⟨_, _, ⟨rfl, ((A1.set (k := 51) (by decide)).set (k := 50) (by decide)), ?_, ?_⟩, by rw [if_pos q2, nm_eq, nm_eq, e2]⟩
          · rw [gI_sI_k, if_pos rfl, en]
          · rw [gI_sI_n (by decide), gI_sI_k, if_pos rfl, en, if_neg (by omega)]; rfl
        · have en : bst (okP w N) (difP N y) (i + 1) = bst (okP w N) (difP N y) i := by rw [bst, if_neg (fun g => q2 g.2)]
          exact ⟨_, _, ⟨rfl, A1, by rw [en]; exact A2, by rw [en]; exact A3⟩, by rw [if_neg q2, e2]⟩
      · have en : bst (okP w N) (difP N y) (i + 1) = bst (okP w N) (difP N y) i := by rw [bst, if_neg (fun g => by rcases g.1 with g | g; exact q1 g; exact q3 g)]
        exact ⟨_, _, ⟨rfl, A1, by rw [en]; exact A2, by rw [en]; exact A3⟩, by rw [if_neg q3, e2]⟩
  · rintro x T ⟨rfl, A1, A2, A3⟩ rec
    have ho := mt odd_lt.mpr (Nat.lt_irrefl ((2 ^ N - 1) / 2))
    have e47 : gI T 47 0 = nI (2 ^ N - 1) := by rw [A1.1 _ _ (by decide)]; exact b3.2.1
    unfold b_X2_part_2_14_18
    rw [e47, ← iI_n, lt_f (by omega)]
    exact ⟨T, rfl, (b2.mono (by decide)).tr (A1.mono (by decide)), A2, A3⟩
