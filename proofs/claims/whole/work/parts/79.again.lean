/-! again -/
theorem bc_c : ∀ a, a < 64 → ∀ b, b < 64 → bcI (nI (64 * a + b)) = nI (pc (64 * a + b) 12) := by decide +kernel
theorem bc_pc {v : Nat} (h : v < 4096) : bcI (nI v) = nI (pc v 12) := by
  have := bc_c (v / 64) (by omega) (v % 64) (by omega)
  rw [show 64 * (v / 64) + v % 64 = v by omega] at this
  exact this
def okA (w N : Nat) (y : Nat → Int) (z : Int) (v : Nat) : Bool := decide (difP N y v ≤ z) && okP w N v
def mvA (f v : Nat) : Int := ((pc (v ^^^ f) 12 : Nat) : Int)
def agP (w N : Nat) (y : Nat → Int) (z : Int) (f : Nat) : Int := bst (okA w N y z) (mvA f) ((2 ^ N - 1) / 2)
theorem mv_bd (f v : Nat) : 0 ≤ mvA f v ∧ mvA f v ≤ 12 := by
  have := pc_le (v ^^^ f) 12
  unfold mvA
  omega
theorem x_agl {S : St} {y : Nat → Int} {w N f : Nat} {z : Int} (hN : N ≤ 12) (hw : 0 < N → 1 ≤ w ∧ w ≤ 4) (hw4 : w ≤ 4) (h43 : gI S 43 0 = iI (N : Nat)) (h42 : gI S 42 0 = iI (w : Nat)) (h9 : ∀ c, c < N → gI S 9 c = iI ((c % w : Nat) : Int)) (hy : ∀ c, c < N → gI S 28 c = iI (y c)) (hb : ∀ c, c < N → 0 ≤ y c ∧ y c ≤ 4752) (h50 : gI S 50 0 = iI (f : Nat)) (hf : f < 2 ^ N) (hz : 0 ≤ z ∧ z < 100000) : ∃ T, m_X2_partAgain_2_28 (iI z) S = some T ∧ Fr [45, 46, 47, 48, 49, 15, 16, 52, 53] S T ∧ gI T 52 0 = iI (agP w N y z f) ∧ gI T 53 0 = iI (if agP w N y z f = -1 then -1 else mvA f (agP w N y z f).toNat) := by
  have hp := pw12 hN
  obtain ⟨B, b1, b2, b3, b4⟩ := x_prep_28 hN hw h43 h42 h9 hy
  have bf : gI B 50 0 = iI (f : Nat) := by rw [b2.1 _ _ (by decide), h50]
  unfold m_X2_partAgain_2_28
  rw [b1, bndV_some, nm_eq, nm_eq]
  have F0 : Fr [52, 53] B (sI (sI B 52 0 (-1 : Int32)) 53 0 (-1 : Int32)) := (Fr.rf.set (by decide)).set (by decide)
  refine it1_inv (fun i x T => x = iI ((2 * i + 1 : Nat) : Int) ∧ Fr [52, 53] B T ∧ gI T 52 0 = iI (bst (okA w N y z) (mvA f) i) ∧ gI T 53 0 = iI (if bst (okA w N y z) (mvA f) i = -1 then -1 else mvA f (bst (okA w N y z) (mvA f) i).toNat)) ((2 ^ N - 1) / 2) (fun q => ∃ T, q = some T ∧ Fr [45, 46, 47, 48, 49, 15, 16, 52, 53] S T ∧ gI T 52 0 = iI (agP w N y z f) ∧ gI T 53 0 = iI (if agP w N y z f = -1 then -1 else mvA f (agP w N y z f).toNat)) ?_ ?_ 5000 0 _ _ (by omega) (by omega) ⟨rfl, F0, by rw [gI_sI_n (by decide), gI_sI_k, if_pos rfl]; rfl, by rw [gI_sI_k, if_pos rfl]; rfl⟩
  · rintro i x T hi ⟨rfl, A1, A2, A3⟩ rec
    have ho := odd_lt.mp hi
    have PT : Pp T w N := ⟨by rw [A1.1 _ _ (by decide)]; exact b3.1, by rw [A1.1 _ _ (by decide)]; exact b3.2.1, by rw [A1.1 _ _ (by decide)]; exact b3.2.2.1, by rw [A1.1 _ _ (by decide)]; exact b3.2.2.2⟩
    have HT : Sm6 T y N := ⟨fun m hm => by rw [A1.1 _ _ (by decide)]; exact b4.1 m hm, fun m hm => by rw [A1.1 _ _ (by decide)]; exact b4.2 m hm⟩
    have d1 := difP_bd (v := 2 * i + 1) hN hb
    have m1 := mv_bd f (2 * i + 1)
    have m2 := mv_bd f (bst (okA w N y z) (mvA f) i).toNat
    have hx : (2 * i + 1) ^^^ f < 2 ^ N := Nat.xor_lt_two_pow (by omega) hf
    have ec : m_J6_bitCount_0f7a4 (iI ((2 * i + 1 : Nat) : Int) ^^^ gI T 50 0) T = some (iI (mvA f (2 * i + 1)), T) := by
      rw [A1.1 _ _ (by decide), bf, iI_n, iI_n, nx_xor, bc_any, bc_pc (by omega)]
      unfold mvA
      rw [iI_n]
    have ex : m_X2_differenceOf (iI ((2 * i + 1 : Nat) : Int)) T = some (iI (difP N y (2 * i + 1)), T) := by rw [iI_n]; exact x_diff PT HT hN (by omega) hb
    have eb : m_X2_bothHang (iI ((2 * i + 1 : Nat) : Int)) T = some (if okP w N (2 * i + 1) = true then 1 else 0, T) := by rw [iI_n]; exact x_both PT hN hw4 (by omega)
    have e2 : iI ((2 * i + 1 : Nat) : Int) + 2 = iI ((2 * (i + 1) + 1 : Nat) : Int) := iI_add _ 2
    have okt : difP N y (2 * i + 1) ≤ z → okP w N (2 * i + 1) = true → okA w N y z (2 * i + 1) = true := fun h1 h2 => by unfold okA; simp [h1, h2]
    have okn1 : ¬ difP N y (2 * i + 1) ≤ z → ¬ okA w N y z (2 * i + 1) = true := fun h1 => by unfold okA; simp [h1]
    have okn2 : ¬ okP w N (2 * i + 1) = true → ¬ okA w N y z (2 * i + 1) = true := fun h1 => by unfold okA; simp [h1]
    have keep : bst (okA w N y z) (mvA f) (i + 1) = bst (okA w N y z) (mvA f) i → iI ((2 * (i + 1) + 1 : Nat) : Int) = iI ((2 * (i + 1) + 1 : Nat) : Int) ∧ Fr [52, 53] B T ∧ gI T 52 0 = iI (bst (okA w N y z) (mvA f) (i + 1)) ∧ gI T 53 0 = iI (if bst (okA w N y z) (mvA f) (i + 1) = -1 then -1 else mvA f (bst (okA w N y z) (mvA f) (i + 1)).toNat) := fun en => ⟨rfl, A1, by rw [en]; exact A2, by rw [en]; exact A3⟩
    have take : bst (okA w N y z) (mvA f) (i + 1) = ((2 * i + 1 : Nat) : Int) → iI ((2 * (i + 1) + 1 : Nat) : Int) = iI ((2 * (i + 1) + 1 : Nat) : Int) ∧ Fr [52, 53] B (sI (sI T 53 0 (iI (mvA f (2 * i + 1)))) 52 0 (iI ((2 * i + 1 : Nat) : Int))) ∧ gI (sI (sI T 53 0 (iI (mvA f (2 * i + 1)))) 52 0 (iI ((2 * i + 1 : Nat) : Int))) 52 0 = iI (bst (okA w N y z) (mvA f) (i + 1)) ∧ gI (sI (sI T 53 0 (iI (mvA f (2 * i + 1)))) 52 0 (iI ((2 * i + 1 : Nat) : Int))) 53 0 = iI (if bst (okA w N y z) (mvA f) (i + 1) = -1 then -1 else mvA f (bst (okA w N y z) (mvA f) (i + 1)).toNat) := fun en => ⟨rfl, (A1.set (by decide)).set (by decide), by rw [gI_sI_k, if_pos rfl, en], by rw [gI_sI_n (by decide), gI_sI_k, if_pos rfl, en, if_neg (by omega)]; rfl⟩
    unfold b_X2_partAgain_2_28_19
    rw [PT.2.1, ← iI_n, lt_t (by omega), ec, bnd_some, A3]
    by_cases q1 : bst (okA w N y z) (mvA f) i = -1
    · rw [if_pos q1, eqm_t rfl, ex, bnd_some, if_lt (by omega)]
      by_cases q4 : z < difP N y (2 * i + 1)
      · exact ⟨_, _, keep (by rw [bst, if_neg (fun g => okn1 (by omega) g.2)]), by rw [if_pos q4, e2]⟩
      · rw [if_neg q4, eb, bnd_some, ite01]
        by_cases q2 : okP w N (2 * i + 1) = true
        · exact ⟨_, _, take (by rw [bst, if_pos ⟨Or.inl q1, okt (by omega) q2⟩]), by rw [if_pos q2, nm_eq, nm_eq, e2]⟩
        · exact ⟨_, _, keep (by rw [bst, if_neg (fun g => okn2 q2 g.2)]), by rw [if_neg q2, e2]⟩
    · rw [if_neg q1, eqm_f (by omega), if_lt (by omega)]
      by_cases q3 : mvA f (2 * i + 1) < mvA f (bst (okA w N y z) (mvA f) i).toNat
      · rw [if_pos q3, ex, bnd_some, if_lt (by omega)]
        by_cases q4 : z < difP N y (2 * i + 1)
        · exact ⟨_, _, keep (by rw [bst, if_neg (fun g => okn1 (by omega) g.2)]), by rw [if_pos q4, e2]⟩
        · rw [if_neg q4, eb, bnd_some, ite01]
          by_cases q2 : okP w N (2 * i + 1) = true
          · exact ⟨_, _, take (by rw [bst, if_pos ⟨Or.inr q3, okt (by omega) q2⟩]), by rw [if_pos q2, nm_eq, nm_eq, e2]⟩
          · exact ⟨_, _, keep (by rw [bst, if_neg (fun g => okn2 q2 g.2)]), by rw [if_neg q2, e2]⟩
      · exact ⟨_, _, keep (by rw [bst, if_neg (fun g => by rcases g.1 with g | g; exact q1 g; exact q3 g)]), by rw [if_neg q3, e2]⟩
  · rintro x T ⟨rfl, A1, A2, A3⟩ rec
    have ho := mt odd_lt.mpr (Nat.lt_irrefl ((2 ^ N - 1) / 2))
    have e47 : gI T 47 0 = nI (2 ^ N - 1) := by rw [A1.1 _ _ (by decide)]; exact b3.2.1
    unfold b_X2_partAgain_2_28_19
    rw [e47, ← iI_n, lt_f (by omega)]
    exact ⟨T, rfl, (b2.mono (by decide)).tr (A1.mono (by decide)), A2, A3⟩
theorem m_agl {S : St} {y : Nat → Int} {w N f : Nat} {z : Int} {x3 : Int32} (H : HM S w N) (Y : Yv S y N) (hw : 0 < N → 1 ≤ w ∧ w ≤ 4) (hN : N ≤ 12) (hb : ∀ c, c < N → 0 ≤ y c ∧ y c ≤ 4752) (hf : f < 2 ^ N) (hz : 0 ≤ z ∧ z < 100000) {kk : Int32 → St → Option (Int32 × St)} : it2 (b_X7_againOf_57 (iI z) x3 (iI (f : Nat)) kk) 5000 (-1 : Int32) (1 : Int32) S = kk (iI (agP w N y z f)) S := by
  have hp := pw12 hN
  refine it2_inv (fun i x u T => x = iI (bst (okA w N y z) (mvA f) i) ∧ u = iI ((2 * i + 1 : Nat) : Int) ∧ T = S) ((2 ^ N - 1) / 2) (fun q => q = kk (iI (agP w N y z f)) S) ?_ ?_ 5000 0 _ _ S (by omega) (by omega) ⟨rfl, rfl, rfl⟩
  · rintro i x u T hi ⟨rfl, rfl, rfl⟩ rec
    have ho := odd_lt.mp hi
    have hN0 : 0 < N := by
      rcases Nat.eq_zero_or_pos N with rfl | h
      · simp at ho
      · exact h
    have d1 := difP_bd (v := 2 * i + 1) hN hb
    have m1 := mv_bd f (2 * i + 1)
    have eo : ∀ j : Nat, 2 * j + 1 < 2 ^ N → m_X7_ones (iI ((2 * j + 1 : Nat) : Int) ^^^ iI (f : Nat)) T = some (iI (mvA f (2 * j + 1)), T) := fun j hj => by
      have hx : (2 * j + 1) ^^^ f < 2 ^ N := Nat.xor_lt_two_pow hj hf
      rw [iI_n, iI_n, nx_xor, m_ones (by omega)]
      unfold mvA
      rw [iI_n]
    have ex : m_X7_differs (iI ((2 * i + 1 : Nat) : Int)) T = some (iI (difP N y (2 * i + 1)), T) := by rw [iI_n]; exact m_diff Y hN (by omega) hb
    have eb : m_X7_isParting (iI ((2 * i + 1 : Nat) : Int)) T = some (if okP w N (2 * i + 1) = true then 1 else 0, T) := by rw [iI_n]; exact m_parting H (hw hN0) hN (by omega) (by omega)
    have e2 : iI ((2 * i + 1 : Nat) : Int) + 2 = iI ((2 * (i + 1) + 1 : Nat) : Int) := iI_add _ 2
    have okt : difP N y (2 * i + 1) ≤ z → okP w N (2 * i + 1) = true → okA w N y z (2 * i + 1) = true := fun h1 h2 => by unfold okA; simp [h1, h2]
    have okn1 : ¬ difP N y (2 * i + 1) ≤ z → ¬ okA w N y z (2 * i + 1) = true := fun h1 => by unfold okA; simp [h1]
    have okn2 : ¬ okP w N (2 * i + 1) = true → ¬ okA w N y z (2 * i + 1) = true := fun h1 => by unfold okA; simp [h1]
    refine ⟨iI (bst (okA w N y z) (mvA f) (i + 1)), _, T, ⟨rfl, rfl, rfl⟩, ?_⟩
    unfold b_X7_againOf_57
    rw [m_all H hN, bnd_some, ← iI_n, lt_t (by omega), ex, bnd_some, if_lt (by omega), e2, bst]
    by_cases q4 : z < difP N y (2 * i + 1)
    · rw [if_pos q4, if_pos rfl, if_neg (fun g => okn1 (by omega) g.2)]
    · rw [if_neg q4]
      rcases bst_c (okA w N y z) (mvA f) i with q1 | ⟨j, j1, j2⟩
      · rw [q1, eqm_t rfl, if_neg (by decide), eb, bnd_some, ite01]
        by_cases q2 : okP w N (2 * i + 1) = true
        · rw [if_pos q2, if_pos ⟨Or.inl rfl, okt (by omega) q2⟩]
        · rw [if_neg q2, if_neg (fun g => okn2 q2 g.2)]
      · have m2 := mv_bd f (2 * j + 1)
        rw [j2, eqm_f (by omega), eo i (by omega), bnd_some, eo j (by omega), bnd_some, if_lt (by omega), Int.toNat_natCast]
        by_cases q3 : mvA f (2 * i + 1) < mvA f (2 * j + 1)
        · rw [if_pos q3, if_neg (by decide), eb, bnd_some, ite01]
          by_cases q2 : okP w N (2 * i + 1) = true
          · rw [if_pos q2, if_pos ⟨Or.inr q3, okt (by omega) q2⟩]
          · rw [if_neg q2, if_neg (fun g => okn2 q2 g.2)]
        · rw [if_neg q3, if_pos rfl, if_neg (fun g => by rcases g.1 with g | g; omega; exact q3 g)]
  · rintro x u T ⟨rfl, rfl, rfl⟩ rec
    have ho := mt odd_lt.mpr (Nat.lt_irrefl ((2 ^ N - 1) / 2))
    unfold b_X7_againOf_57
    rw [m_all H hN, bnd_some, ← iI_n, lt_f (by omega)]
    rfl
