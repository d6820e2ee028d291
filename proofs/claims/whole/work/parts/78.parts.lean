/-! parts -/
theorem rep_s (f : Nat → Nat) : ∀ k x, rep f (k + 1) x = f (rep f k x)
  | 0, _ => rfl
  | k + 1, x => by
    show rep f (k + 1) (f x) = f (rep f k (f x))
    exact rep_s f k (f x)
theorem ste_lt {w v a x b N : Nat} (hx : x < 2 ^ N) (hb : b < N) : ste w v a x b < 2 ^ N := by
  unfold ste
  split
  · exact Nat.or_lt_two_pow hx (Nat.pow_lt_pow_right (by omega) hb)
  · exact hx
theorem swB_lt {w v a x N : Nat} (hx : x < 2 ^ N) : ∀ n, n ≤ N → swB w v a x n < 2 ^ N
  | 0, _ => hx
  | n + 1, h => ste_lt (swB_lt hx n (by omega)) (by omega)
theorem swA_lt {w v x N : Nat} (hx : x < 2 ^ N) : ∀ n, n ≤ N → swA w N v x n < 2 ^ N
  | 0, _ => hx
  | n + 1, h => swB_lt (swA_lt hx n (by omega)) N (Nat.le_refl _)
theorem repS_lt {w v N : Nat} : ∀ k x, x < 2 ^ N → rep (swp12 w N v) k x < 2 ^ N
  | 0, _, h => h
  | k + 1, x, h => repS_lt k _ (swA_lt h N (Nat.le_refl _))
def HM (S : St) (w N : Nat) : Prop := gI S 41 0 = iI (N : Nat) ∧ gI S 42 0 = iI (w : Nat)
theorem m_h34 {S : St} {w N v a x : Nat} {x3 : Int32} (H : HM S w N) (hw : 1 ≤ w ∧ w ≤ 4) (hN : N ≤ 12) (hv : v < 2 ^ N) (ha : a < N) (hx : x < 2 ^ N) {kk : Int32 → St → Option (Int32 × St)} : it2 (b_X7_hangs_34 (nI v) x3 (iI a) kk) 5000 (nI x) (0 : Int32) S = kk (nI (swB w v a x N)) S := by
  have hp := pw12 hN
  refine it2_inv (fun i y z T => y = nI (swB w v a x i) ∧ z = iI (i : Int) ∧ T = S) N (fun q => q = kk (nI (swB w v a x N)) S) ?_ ?_ 5000 0 _ _ S (by omega) (by omega) ⟨rfl, rfl, rfl⟩
  · rintro i y z T hi ⟨rfl, rfl, rfl⟩ rec
    have hl := swB_lt (w := w) (v := v) (a := a) hx i (by omega)
    refine ⟨nI (swB w v a x (i + 1)), iI ((i + 1 : Nat) : Int), T, ⟨rfl, rfl, rfl⟩, ?_⟩
    have es : swB w v a x (i + 1) = ste w v a (swB w v a x i) i := rfl
    have ei : iI (i : Int) + 1 = iI ((i + 1 : Nat) : Int) := iI_add _ 1
    unfold b_X7_hangs_34
    rw [H.1, lt_t (by omega), m_isinv (by omega) (by omega), bnd_some, ite01, m_isinv (by omega) (by omega), bnd_some, ite01, m_next H.2 hw (by omega) (by omega), bnd_some, ite01, or_0, ei, es]
    unfold ste
    by_cases p1 : (swB w v a x i).testBit a = true
    · rw [if_pos p1]
      by_cases p2 : v.testBit i = true
      · rw [if_pos p2]
        by_cases p3 : adj w a i = true
        · rw [if_pos p3, nm_eq, if_pos (by rw [p1, p2, p3]; rfl), iI_n i, one_shl i (by omega), fa_or]
        · rw [if_neg p3, nm_eq, if_neg (by simp [p3])]
      · rw [if_neg p2, nm_eq, if_neg (by simp [p2])]
    · rw [if_neg p1, nm_eq, if_neg (by simp [p1])]
  · rintro y z T ⟨rfl, rfl, rfl⟩ rec
    unfold b_X7_hangs_34
    rw [H.1, lt_f (by omega)]
theorem m_h22 {S : St} {w N v x : Nat} {x3 : Int32} (H : HM S w N) (hw : 1 ≤ w ∧ w ≤ 4) (hN : N ≤ 12) (hv : v < 2 ^ N) (hx : x < 2 ^ N) {kk : Int32 → St → Option (Int32 × St)} : it2 (b_X7_hangs_22 (nI v) x3 kk) 5000 (nI x) (0 : Int32) S = kk (nI (swp12 w N v x)) S := by
  refine it2_inv (fun i y z T => y = nI (swA w N v x i) ∧ z = iI (i : Int) ∧ T = S) N (fun q => q = kk (nI (swp12 w N v x)) S) ?_ ?_ 5000 0 _ _ S (by omega) (by omega) ⟨rfl, rfl, rfl⟩
  · rintro i y z T hi ⟨rfl, rfl, rfl⟩ rec
    refine ⟨nI (swA w N v x (i + 1)), iI ((i + 1 : Nat) : Int), T, ⟨rfl, rfl, rfl⟩, ?_⟩
    have ei : iI (i : Int) + 1 = iI ((i + 1 : Nat) : Int) := iI_add _ 1
    unfold b_X7_hangs_22
    rw [H.1, lt_t (by omega), m_h34 H hw hN hv hi (swA_lt hx i (by omega)), ei]
    rfl
  · rintro y z T ⟨rfl, rfl, rfl⟩ rec
    unfold b_X7_hangs_22
    rw [H.1, lt_f (by omega)]
    rfl
theorem m_hangs {S : St} {w N v : Nat} (H : HM S w N) (hw : 1 ≤ w ∧ w ≤ 4) (hN : N ≤ 12) (hv : v < 2 ^ N) (h0 : 0 < v) : m_X7_hangs (nI v) S = some (if hang w N v = true then 1 else 0, S) := by
  have hp := pw12 hN
  have hr := rep_lt (w := w) hv 12 _ (low_lt hv)
  unfold m_X7_hangs hang
  rw [if_neg (fun g => by have := n_inj (b := 0) (by omega) (by omega) g; omega), n_low (by omega), nm_eq]
  refine it2_inv (fun i y z T => y = nI (rep (swp12 w N v) i (lowb v)) ∧ z = iI (i : Int) ∧ T = S) 12 (fun q => q = some (if (rep (grw w N v) 12 (lowb v) == v) = true then 1 else 0, S)) ?_ ?_ 5000 0 _ _ S (by omega) (by omega) ⟨rfl, rfl, rfl⟩
  · rintro i y z T hi ⟨rfl, rfl, rfl⟩ rec
    refine ⟨nI (rep (swp12 w N v) (i + 1) (lowb v)), iI ((i + 1 : Nat) : Int), T, ⟨rfl, rfl, rfl⟩, ?_⟩
    have ei : iI (i : Int) + 1 = iI ((i + 1 : Nat) : Int) := iI_add _ 1
    unfold b_X7_hangs_13
    rw [l12, lt_t (by omega), m_h22 H hw hN hv (repS_lt i _ (low_lt hv)), ei, rep_s]
  · rintro y z T ⟨rfl, rfl, rfl⟩ rec
    unfold b_X7_hangs_13
    rw [l12, lt_f (by omega), sweeps (by omega) hN hv]
    dsimp only
    by_cases q : rep (grw w N v) 12 (lowb v) = v
    · rw [if_pos (by rw [q]), if_pos (by rw [q]; exact beq_self_eq_true v)]
    · rw [if_neg (fun g => q (n_inj (by omega) (by omega) g)), if_neg (by rw [beq_iff_eq]; exact q)]
theorem m_all {S : St} {w N : Nat} (H : HM S w N) (hN : N ≤ 12) : m_X7_all S = some (nI (2 ^ N - 1), S) := by
  have h0 : 0 < 2 ^ N := Nat.two_pow_pos N
  unfold m_X7_all
  rw [H.1, iI_n, one_shl N (by omega), ← iI_n, ← iI_n, l1, iI_sub, show (((2 ^ N : Nat) : Int) - 1) = ((2 ^ N - 1 : Nat) : Int) by omega]
theorem m_parting {S : St} {w N v : Nat} (H : HM S w N) (hw : 1 ≤ w ∧ w ≤ 4) (hN : N ≤ 12) (hv : v < 2 ^ N - 1) (ho : v % 2 = 1) : m_X7_isParting (nI v) S = some (if okP w N v = true then 1 else 0, S) := by
  have hp := pw12 hN
  have b0 : v.testBit 0 = true := by rw [Nat.testBit_eq_decide_div_mod_eq]; simp [ho]
  have e0 : m_X7_isIn (nI v) (0 : Int32) S = some (if v.testBit 0 = true then 1 else 0, S) := m_isinv (c := 0) (by omega) (by omega)
  unfold m_X7_isParting okP
  rw [e0, bnd_some, ite01, if_pos b0, m_hangs H hw hN (by omega) (by omega), bnd_some, ite01]
  by_cases q : hang w N v = true
  · rw [if_pos q, m_all H hN, bnd_some, n_xorm hN (by omega) (by omega), full_x (by omega), m_hangs H hw hN (by omega) (by omega), bnd_some, ite01]
    by_cases q2 : hang w N (2 ^ N - 1 - v) = true
    · rw [if_pos q2, if_pos (by simp [q, q2])]
    · rw [if_neg q2, if_neg (by simp [q2])]
  · rw [if_neg q, if_neg (by simp [q])]
theorem m_best {S : St} {y : Nat → Int} {w N : Nat} (H : HM S w N) (Y : Yv S y N) (hw : 0 < N → 1 ≤ w ∧ w ≤ 4) (hN : N ≤ 12) (hb : ∀ c, c < N → 0 ≤ y c ∧ y c ≤ 4752) {kk : Int32 → St → Option (Int32 × St)} : it2 (b_X7_partsNow_13 kk) 5000 (-1 : Int32) (1 : Int32) S = kk (iI (fpP w N y)) S := by
  have hp := pw12 hN
  refine it2_inv (fun i x z T => x = iI (bst (okP w N) (difP N y) i) ∧ z = iI ((2 * i + 1 : Nat) : Int) ∧ T = S) ((2 ^ N - 1) / 2) (fun q => q = kk (iI (fpP w N y)) S) ?_ ?_ 5000 0 _ _ S (by omega) (by omega) ⟨rfl, rfl, rfl⟩
  · rintro i x z T hi ⟨rfl, rfl, rfl⟩ rec
    have ho := odd_lt.mp hi
    have hN0 : 0 < N := by
      rcases Nat.eq_zero_or_pos N with rfl | h
      · simp at ho
      · exact h
    have d1 := difP_bd (v := 2 * i + 1) hN hb
    have ex : m_X7_differs (iI ((2 * i + 1 : Nat) : Int)) T = some (iI (difP N y (2 * i + 1)), T) := by rw [iI_n]; exact m_diff Y hN (by omega) hb
    have eb : m_X7_isParting (iI ((2 * i + 1 : Nat) : Int)) T = some (if okP w N (2 * i + 1) = true then 1 else 0, T) := by rw [iI_n]; exact m_parting H (hw hN0) hN (by omega) (by omega)
    have e2 : iI ((2 * i + 1 : Nat) : Int) + 2 = iI ((2 * (i + 1) + 1 : Nat) : Int) := iI_add _ 2
    refine ⟨iI (bst (okP w N) (difP N y) (i + 1)), _, T, ⟨rfl, rfl, rfl⟩, ?_⟩
    unfold b_X7_partsNow_13
    rw [m_all H hN, bnd_some, ← iI_n, lt_t (by omega), e2, bst]
    rcases bst_c (okP w N) (difP N y) i with q1 | ⟨j, j1, j2⟩
    · rw [q1, eqm_t rfl, if_neg (by decide), eb, bnd_some, ite01]
      by_cases q2 : okP w N (2 * i + 1) = true
      · rw [if_pos q2, if_pos ⟨Or.inl rfl, q2⟩]
      · rw [if_neg q2, if_neg (fun g => q2 g.2)]
    · have d2 := difP_bd (v := 2 * j + 1) hN hb
      have ej : m_X7_differs (iI ((2 * j + 1 : Nat) : Int)) T = some (iI (difP N y (2 * j + 1)), T) := by rw [iI_n]; exact m_diff Y hN (by omega) hb
      rw [j2, eqm_f (by omega), ex, bnd_some, ej, bnd_some, if_lt (by omega), Int.toNat_natCast]
      by_cases q3 : difP N y (2 * i + 1) < difP N y (2 * j + 1)
      · rw [if_pos q3, if_neg (by decide), eb, bnd_some, ite01]
        by_cases q2 : okP w N (2 * i + 1) = true
        · rw [if_pos q2, if_pos ⟨Or.inr q3, q2⟩]
        · rw [if_neg q2, if_neg (fun g => q2 g.2)]
      · rw [if_neg q3, if_pos rfl, if_neg (fun g => by rcases g.1 with g | g; omega; exact q3 g)]
  · rintro x z T ⟨rfl, rfl, rfl⟩ rec
    have ho := mt odd_lt.mpr (Nat.lt_irrefl ((2 ^ N - 1) / 2))
    unfold b_X7_partsNow_13
    rw [m_all H hN, bnd_some, ← iI_n, lt_f (by omega)]
    rfl
theorem Vw.hm {S : St} {D : Nat → Nat → Int} (V : Vw S D) : HM S (wD D) (ND D) := ⟨V.cells, V.2.2.1⟩
theorem m_now {S : St} {D : Nat → Nat → Int} (R : Rg D) (M : RM_ S D) : ∃ T, m_X7_partsNow S = some (iI (fpD D), T) ∧ Vw T D ∧ Yv T (yD D) (ND D) := by
  have hN := ND_le (D := D)
  obtain ⟨T, t1, t2, V⟩ := m_flt R M
  obtain ⟨U, u1, u2, u3⟩ := m_lays R V
  have VU : Vw U D := V.fr u2 (by decide) (by decide)
  refine ⟨U, ?_, VU, VU.cells, u3⟩
  unfold m_X7_partsNow
  rw [t1, bnd_some, u1, bndV_some, m_best VU.hm ⟨VU.cells, u3⟩ (fun h => by have := wD_4 R h; omega) hN (fun c hc => yD_bd R (by omega) c)]
  rfl
theorem fp_c (D : Nat → Nat → Int) : fpD D = -1 ∨ ∃ j : Nat, j < (2 ^ ND D - 1) / 2 ∧ fpD D = ((2 * j + 1 : Nat) : Int) := bst_c _ _ _
theorem m_parts {S : St} {D : Nat → Nat → Int} (R : Rg D) (M : RM_ S D) {a : Int} (ha : 0 ≤ a ∧ a < 2) : ∃ T, m_X7_partsOf (iI a) S = some (if a = 0 then iI (dfD D) else iI (fpD D), T) ∧ Vw T D := by
  have hN := ND_le (D := D)
  have hp := pw12 hN
  obtain ⟨T, t1, V, Y⟩ := m_now R M
  refine ⟨T, ?_, V⟩
  unfold m_X7_partsOf dfD
  rw [t1, bnd_some]
  rcases fp_c D with q | ⟨j, j1, j2⟩
  · rw [q, eqm_t rfl, if_pos rfl]
    by_cases e : a = 0
    · rw [if_pos e]
    · rw [if_neg e]
  · rw [j2, eqm_f (by omega), if_neg (show ¬ ((2 * j + 1 : Nat) : Int) = -1 by omega), Int.toNat_natCast]
    rcases (show a = 0 ∨ a = 1 by omega) with rfl | rfl
    · rw [l1, eq_f (by omega), iI_n, m_diff Y hN (by omega) (fun c hc => yD_bd R (by omega) c), bnd_some, if_pos rfl]
    · rw [l1, eq_t rfl, if_neg (by decide)]
theorem ag_parts : Ag_parts Rel := by
  rintro SX SM ⟨D, R, X, M⟩ x1
  obtain ⟨a, rfl, a1, a2⟩ := iI_of x1
  unfold m_X7_parts
  rw [m_inN (n := 2) l1 (by omega), bnd_some, ite01]
  by_cases q1 : 0 ≤ a ∧ a < 2
  · obtain ⟨T, t1, t2⟩ := x_parts R X q1
    obtain ⟨U, u1, u2⟩ := m_parts R M q1
    rw [if_pos q1, t1, u1, bnd_some]
    exact ⟨_, _, _, rfl, rfl, D, R, t2, u2.1⟩
  · unfold m_X6_parts
    rw [if_neg q1, l2, x_below (by omega), bnd_some, ite01, if_neg q1]
    exact ⟨_, _, _, rfl, rfl, D, R, X, M⟩
