/-! the sheets: read, write, copy -/
theorem eq48 (s i : Nat) : ((48 : Int) * (s : Int) + (i : Int)) = ((48 * s + i : Nat) : Int) := by push_cast; omega
theorem eq48' (s i : Nat) : ((s : Int) * 48 + (i : Int)) = ((48 * s + i : Nat) : Int) := by push_cast; omega
theorem rd_loop {s m : Nat} (hs : s < 4) : ∀ (k i N1 N2 : Nat) (D : Nat → Nat → Int) (SX SM : St), i + k = m → k < N1 → k < N2 → Rg D → RX SX D → RM_ SM D → D 17 s = 1 → (m : Int) ≤ D 19 s → (m : Int) ≤ 12 → (D 19 s = m ∨ 12 = m) → ∃ r S T, it1 (b_X6_read_44 (iI s) (iI m) (fun x3_S15 S15 => some (x3_S15, S15))) N1 (iI i) SX = some (r, S) ∧ it1 (b_X7_read_27 (iI s) (fun x2_S6 S6 => some (x2_S6, S6))) N2 (iI i) SM = some (r, T) ∧ Rel S T := by
  intro k
  induction k with
  | zero =>
    intro i N1 N2 D SX SM e h1 h2 R X M g1 g2 g3 g4
    have r19 : 0 ≤ D 19 s ∧ D 19 s ≤ 48 := R 19 s
    obtain ⟨N1, rfl⟩ : ∃ n, N1 = n + 1 := ⟨N1 - 1, by omega⟩
    obtain ⟨N2, rfl⟩ : ∃ n, N2 = n + 1 := ⟨N2 - 1, by omega⟩
    refine ⟨iI i, SX, SM, ?_, ?_, D, R, X, M⟩
    · rw [it1_s]
      unfold b_X6_read_44
      rw [lt_f (by omega)]
    · rw [it1_s]
      unfold b_X7_read_27
      rw [chk_t (by omega), ix_n (by omega), M.2.2.1 s hs g1, if_lt (by omega), l12, if_lt (by omega)]
      by_cases q : (i : Int) < D 19 s
      · rw [if_pos q, if_neg (by omega)]
      · rw [if_neg q]
  | succ k ih =>
    intro i N1 N2 D SX SM e h1 h2 R X M g1 g2 g3 g4
    have r19 : 0 ≤ D 19 s ∧ D 19 s ≤ 48 := R 19 s
    have r20 : -2147483648 ≤ D 20 (48 * s + i) ∧ D 20 (48 * s + i) ≤ 2147483647 := R 20 (48 * s + i)
    obtain ⟨N1, rfl⟩ : ∃ n, N1 = n + 1 := ⟨N1 - 1, by omega⟩
    obtain ⟨N2, rfl⟩ : ∃ n, N2 = n + 1 := ⟨N2 - 1, by omega⟩
    have eX : gI SX 22 (48 * s + i) = iI (D 20 (48 * s + i)) := X.2.1.2 s hs g1 i (by omega)
    have eM : gI SM 20 (48 * s + i) = iI (D 20 (48 * s + i)) := M.2.2.2 s hs g1 i (by omega)
    have hx : it1 (b_X6_read_44 (iI s) (iI m) (fun x3_S15 S15 => some (x3_S15, S15))) (N1 + 1) (iI i) SX = if 0 ≤ D 20 (48 * s + i) ∧ D 20 (48 * s + i) < 4 then it1 (b_X6_read_44 (iI s) (iI m) (fun x3_S15 S15 => some (x3_S15, S15))) N1 (iI ((i + 1 : Nat) : Int)) (sI SX 25 i (iI (D 20 (48 * s + i)))) else some (iI i, SX) := by
      rw [it1_s]
      unfold b_X6_read_44 m_X4_itemAt
      rw [lt_t (by omega), l48, iI_mul, iI_add, eq48', chk_t (by omega), ix_n (by omega), eX, bnd_some, l4, x_below (by omega), bnd_some, ite01]
      by_cases q : 0 ≤ D 20 (48 * s + i) ∧ D 20 (48 * s + i) < 4
      · rw [if_pos q, if_pos q, chk_t (by omega), eX, bnd_some, chk_t (by omega), ix_n (by omega), nm_eq, l1, iI_add]
        rfl
      · rw [if_neg q, if_neg q]
    have hm : it1 (b_X7_read_27 (iI s) (fun x2_S6 S6 => some (x2_S6, S6))) (N2 + 1) (iI i) SM = if 0 ≤ D 20 (48 * s + i) ∧ D 20 (48 * s + i) < 4 then it1 (b_X7_read_27 (iI s) (fun x2_S6 S6 => some (x2_S6, S6))) N2 (iI ((i + 1 : Nat) : Int)) (sI SM 4 i (iI (D 20 (48 * s + i)))) else some (iI i, SM) := by
      rw [it1_s]
      unfold b_X7_read_27
      rw [chk_t (by omega), ix_n (c := s) (by omega), M.2.2.1 s hs g1, lt_t (by omega), l12, lt_t (by omega), l48, iI_mul, iI_add, eq48, chk_t (by omega), ix_n (by omega), eM, m_four (by omega), bnd_some, ite01]
      by_cases q : 0 ≤ D 20 (48 * s + i) ∧ D 20 (48 * s + i) < 4
      · rw [if_pos q, if_pos q, chk_t (by omega), chk_t (by omega), eM, ix_n (by omega), nm_eq, l1, iI_add]
        rfl
      · rw [if_neg q, if_neg q]
    rw [hx, hm]
    by_cases q : 0 ≤ D 20 (48 * s + i) ∧ D 20 (48 * s + i) < 4
    · rw [if_pos q, if_pos q]
      have e17 : upD D 4 i (D 20 (48 * s + i)) 17 = D 17 := upD_o (by decide)
      have e19 : upD D 4 i (D 20 (48 * s + i)) 19 = D 19 := upD_o (by decide)
      exact ih (i + 1) N1 N2 (upD D 4 i (D 20 (48 * s + i))) _ _ (by omega) (by omega) (by omega) (R.up (show (0 : Int) ≤ _ ∧ _ ≤ (3 : Int) by omega)) (X.up (k := 4) i _ (by decide)) (M.up i _ (by decide)) (by rw [e17]; exact g1) (by rw [e19]; exact g2) g3 (by rw [e19]; exact g4)
    · rw [if_neg q, if_neg q]
      exact ⟨_, _, _, rfl, rfl, D, R, X, M⟩
theorem ag_read : Ag_read Rel := by
  rintro SX SM ⟨D, R, X, M⟩ x1
  obtain ⟨a, rfl, a1, a2⟩ := iI_of x1
  unfold m_X6_read m_X7_read
  rw [l4, x_below (by omega), bnd_some, ite01, m_sheet (by omega), bnd_some, ite01]
  by_cases q1 : 0 ≤ a ∧ a < 4
  · obtain ⟨s, rfl⟩ : ∃ s : Nat, a = s := ⟨a.toNat, by omega⟩
    have r17 : 0 ≤ D 17 s ∧ D 17 s ≤ 1 := R 17 s
    have r19 : 0 ≤ D 19 s ∧ D 19 s ≤ 48 := R 19 s
    have e17 := M.2.1 s (by omega)
    rw [if_pos q1, if_pos q1, x_lost R X (by omega), bnd_some, ite10, chk_t (by omega), ix_n (by omega), e17]
    by_cases q2 : D 17 s = 1
    · rw [if_pos q2, eq0_f (by omega), x_size X (by omega) q2, bnd_some, nm_eq, l12, if_lt (by omega)]
      by_cases q3 : D 19 s < 12
      · rw [if_pos q3]
        obtain ⟨m, hm⟩ : ∃ m : Nat, D 19 s = m := ⟨(D 19 s).toNat, by omega⟩
        rw [hm]
        exact rd_loop (by omega) m 0 5000 5000 D SX SM (by omega) (by omega) (by omega) R X M q2 (by omega) (by omega) (by omega)
      · rw [if_neg q3]
        exact rd_loop (m := 12) (by omega) 12 0 5000 5000 D SX SM (by omega) (by omega) (by omega) R X M q2 (by omega) (by omega) (by omega)
    · rw [if_neg q2, eq0_t (by omega), l1, x_found, bnd_some, m_meets, bnd_some]
      exact ⟨_, _, _, rfl, rfl, rel_found R X M (by omega)⟩
  · rw [if_neg q1, if_neg q1]
    exact ⟨_, _, _, rfl, rfl, D, R, X, M⟩
theorem Lm.fr {S T : St} {t : Nat → Int} {f : Int × Nat × Nat} {K : List Nat} (L : Lm S t f) (F : Fr K S T) (hk : ∀ a ∈ [41, 42, 43, 2], a ∉ K) : Lm T t f := by
  obtain ⟨h1, h2, h3, h4⟩ := L
  refine ⟨by rw [F.1 _ _ (hk 41 (by decide)), h1], by rw [F.1 _ _ (hk 42 (by decide)), h2], by rw [F.1 _ _ (hk 43 (by decide)), h3], fun c hc => ?_⟩
  rw [F.1 _ _ (hk 2 (by decide))]
  exact h4 c hc
theorem nD_20 {D : Nat → Nat → Int} {j : Nat} {x : Int} : upD D 20 j x 1 = D 1 ∧ nD (upD D 20 j x) = nD D ∧ ND (upD D 20 j x) = ND D := by
  have e1 : upD D 20 j x 1 = D 1 := upD_o (by decide)
  have en : nD (upD D 20 j x) = nD D := by unfold nD; rw [upD_o (by decide)]
  refine ⟨e1, en, ?_⟩
  unfold ND wD rD
  rw [e1, en]
theorem Vw.item {S : St} {D : Nat → Nat → Int} (V : Vw S D) (j : Nat) (v : Int32) : Vw (sI S 20 j v) (upD D 20 j v.toInt) := by
  refine ⟨V.1.item j v, ?_⟩
  rw [nD_20.1, nD_20.2.1]
  exact V.2.fr (K := [20]) (Fr.rf.set (by decide)) (by decide)
theorem wr_loop {s m t : Nat} (hs : s < 4) (ht : t < 4) : ∀ (k i N1 N2 : Nat) (D : Nat → Nat → Int) (SX SM : St), i + k = m → k < N1 → k < N2 → Rg D → RX SX D → Vw SM D → D 17 s = 1 → (m : Int) ≤ D 19 s → m ≤ ND D → (D 19 s = m ∨ ND D = m) → ∃ r S T, it1 (b_X6_write_58 (iI t) (iI s) (iI m) (fun S16 => some (iI m, S16))) N1 (iI i) SX = some (r, S) ∧ it1 (b_X7_write_40 (iI t) (iI s) (fun x4_S13 S13 => some (x4_S13, S13))) N2 (iI i) SM = some (r, T) ∧ Rel S T := by
  intro k
  induction k with
  | zero =>
    intro i N1 N2 D SX SM e h1 h2 R X V g1 g2 g3 g4
    have r19 : 0 ≤ D 19 s ∧ D 19 s ≤ 48 := R 19 s
    have hN := ND_le (D := D)
    obtain ⟨N1, rfl⟩ : ∃ n, N1 = n + 1 := ⟨N1 - 1, by omega⟩
    obtain ⟨N2, rfl⟩ : ∃ n, N2 = n + 1 := ⟨N2 - 1, by omega⟩
    refine ⟨iI i, SX, SM, ?_, ?_, D, R, X, V.1⟩
    · rw [it1_s]
      unfold b_X6_write_58
      rw [lt_f (by omega)]
      have e2 : i = m := by omega
      rw [e2]
    · rw [it1_s]
      unfold b_X7_write_40
      rw [chk_t (by omega), ix_n (by omega), V.1.2.2.1 s hs g1, if_lt (by omega), V.cells, if_lt (by omega)]
      by_cases q : (i : Int) < D 19 s
      · rw [if_pos q, if_neg (by omega)]
      · rw [if_neg q]
  | succ k ih =>
    intro i N1 N2 D SX SM e h1 h2 R X V g1 g2 g3 g4
    have r19 : 0 ≤ D 19 s ∧ D 19 s ≤ 48 := R 19 s
    have hN := ND_le (D := D)
    obtain ⟨N1, rfl⟩ : ∃ n, N1 = n + 1 := ⟨N1 - 1, by omega⟩
    obtain ⟨N2, rfl⟩ : ∃ n, N2 = n + 1 := ⟨N2 - 1, by omega⟩
    have hx : it1 (b_X6_write_58 (iI t) (iI s) (iI m) (fun S16 => some (iI m, S16))) (N1 + 1) (iI i) SX = it1 (b_X6_write_58 (iI t) (iI s) (iI m) (fun S16 => some (iI m, S16))) N1 (iI ((i + 1 : Nat) : Int)) (sI SX 22 (48 * s + i) (nar (D 18 s) (nI (hr (wD D) (hD D) (D 3) i t)))) := by
      rw [it1_s]
      unfold b_X6_write_58
      rw [lt_t (by omega), x_hoursOf X (by omega) ht, bnd_some, x_store R X hs (by omega), bndV_some, l1, iI_add]
      rfl
    have hm : it1 (b_X7_write_40 (iI t) (iI s) (fun x4_S13 S13 => some (x4_S13, S13))) (N2 + 1) (iI i) SM = it1 (b_X7_write_40 (iI t) (iI s) (fun x4_S13 S13 => some (x4_S13, S13))) N2 (iI ((i + 1 : Nat) : Int)) (sI SM 20 (48 * s + i) (nar (D 18 s) (nI (hr (wD D) (hD D) (D 3) i t)))) := by
      rw [it1_s]
      unfold b_X7_write_40
      rw [chk_t (by omega), ix_n (c := s) (by omega), V.1.2.2.1 s hs g1, lt_t (by omega), V.cells, lt_t (by omega), m_hrs R V (by omega) ht, m_keep R V.1 hs (by omega), bndV_some, l1, iI_add]
      rfl
    rw [hx, hm]
    exact ih (i + 1) N1 N2 _ _ _ (by omega) (by omega) (by omega) (R.item _ _) (X.item _ _) (V.item _ _) (by rw [upD_o (by decide)]; exact g1) (by rw [upD_o (by decide)]; exact g2) (by rw [nD_20.2.2]; exact g3) (by rw [nD_20.2.2, upD_o (by decide)]; exact g4)
theorem ag_write : Ag_write Rel := by
  rintro SX SM ⟨D, R, X, M⟩ x1 x2
  obtain ⟨b, rfl, b1, b2⟩ := iI_of x1
  obtain ⟨a, rfl, a1, a2⟩ := iI_of x2
  unfold m_X6_write m_X7_write
  rw [l4, x_below (by omega), bnd_some, ite01, m_four (by omega), bnd_some, ite01]
  by_cases q0 : 0 ≤ b ∧ b < 4
  · rw [if_pos q0, if_pos q0, x_below (by omega), bnd_some, ite01, m_sheet (by omega), bnd_some, ite01]
    by_cases q1 : 0 ≤ a ∧ a < 4
    · obtain ⟨s, rfl⟩ : ∃ s : Nat, a = s := ⟨a.toNat, by omega⟩
      obtain ⟨t, rfl⟩ : ∃ t : Nat, b = t := ⟨b.toNat, by omega⟩
      have r17 : 0 ≤ D 17 s ∧ D 17 s ≤ 1 := R 17 s
      have r19 : 0 ≤ D 19 s ∧ D 19 s ≤ 48 := R 19 s
      have e17 := M.2.1 s (by omega)
      have hN := ND_le (D := D)
      rw [if_pos q1, if_pos q1, x_lost R X (by omega), bnd_some, ite10, chk_t (by omega), ix_n (by omega), e17]
      by_cases q2 : D 17 s = 1
      · obtain ⟨T, f1, f2, V⟩ := m_flt R M
        have e43 : gI SX 43 0 = iI ((ND D : Nat) : Int) := X.2.2.1.1.2.1
        unfold m_X1_cells
        rw [if_pos q2, eq0_f (by omega), x_size X (by omega) q2, bnd_some, e43, bnd_some, nm_eq, if_lt (by omega), f1, bnd_some]
        by_cases q3 : ((ND D : Nat) : Int) < D 19 s
        · rw [if_pos q3]
          exact wr_loop (by omega) (by omega) (ND D) 0 5000 5000 D SX T (by omega) (by omega) (by omega) R X V q2 (by omega) (by omega) (by omega)
        · rw [if_neg q3]
          obtain ⟨m, hm⟩ : ∃ m : Nat, D 19 s = m := ⟨(D 19 s).toNat, by omega⟩
          rw [hm]
          exact wr_loop (by omega) (by omega) m 0 5000 5000 D SX T (by omega) (by omega) (by omega) R X V q2 (by omega) (by omega) (by omega)
      · rw [if_neg q2, eq0_t (by omega), l1, x_found, bnd_some, m_meets, bnd_some]
        exact ⟨_, _, _, rfl, rfl, rel_found R X M (by omega)⟩
    · rw [if_neg q1, if_neg q1]
      exact ⟨_, _, _, rfl, rfl, D, R, X, M⟩
  · rw [if_neg q0, if_neg q0]
    exact ⟨_, _, _, rfl, rfl, D, R, X, M⟩
def lL (z : Int) : Int64 := Int64.ofInt z
theorem lL_of {a : Int} (h : -2147483648 ≤ a ∧ a < 2147483648) : (iI a).toInt64 = lL a := Int32.toInt64_ofInt (show (-2147483648 : Int) ≤ a from h.1) (show a ≤ (2147483647 : Int) by omega)
theorem lL_add (a b : Int) : lL a + lL b = lL (a + b) := (Int64.ofInt_add a b).symm
theorem lL_toInt {a : Int} (h : -9223372036854775808 ≤ a ∧ a < 9223372036854775808) : (lL a).toInt = a := Int64.toInt_ofInt_of_le h.1 h.2
theorem lL_gt {α : Type} {x y : α} {a b : Int} (h : -9223372036854775808 ≤ a ∧ a < 9223372036854775808 ∧ -9223372036854775808 ≤ b ∧ b < 9223372036854775808) : (if 0 < lg_cmp (lL a) (lL b) then x else y) = if b < a then x else y := by
  have e : 0 < lg_cmp (lL a) (lL b) ↔ b < a := by rw [lg_cmp_gt, Int64.lt_iff_toInt_lt, lL_toInt (by omega), lL_toInt (by omega)]
  by_cases g : b < a
  · rw [if_pos g, if_pos (e.mpr g)]
  · rw [if_neg g, if_neg (fun z => g (e.mp z))]
theorem x_holds {S : St} {D : Nat → Nat → Int} (R : Rg D) (X : RX S D) {s : Nat} {a n : Int} (hs : s < 4) (g : D 17 s = 1) (ha : -2147483648 ≤ a ∧ a < 2147483648) (hn : -2147483648 ≤ n ∧ n < 2147483648) : m_X4_holds (iI s) (iI a) (iI n) S = some (if 0 ≤ a ∧ 0 ≤ n ∧ a + n ≤ D 19 s then 1 else 0, S) := by
  have r19 : 0 ≤ D 19 s ∧ D 19 s ≤ 48 := R 19 s
  unfold m_X4_holds
  by_cases q1 : a < 0
  · rw [lt0_t (by omega), if_neg (by omega)]
  · by_cases q2 : n < 0
    · rw [lt0_f (by omega), lt0_t (by omega), if_neg (by omega)]
    · rw [lt0_f (by omega), lt0_f (by omega), chk_t (by omega), ix_n (by omega), X.2.1.1 s hs, if_pos g, if_lt (by omega)]
      by_cases q3 : D 19 s < a
      · rw [if_pos q3, if_neg (by omega)]
      · rw [if_neg q3, chk_t (by omega), iI_sub, if_lt (by omega)]
        by_cases q4 : D 19 s - a < n
        · rw [if_pos q4, if_neg (by omega)]
        · rw [if_neg q4, if_pos (by omega)]
def Dcp (D : Nat → Nat → Int) (p q n : Nat) : Nat → Nat → Int := fun a b => if a = 20 ∧ q ≤ b ∧ b < q + n then D 20 (p + (b - q)) else D a b
theorem Dcp_o {D : Nat → Nat → Int} {p q n k : Nat} (h : k ≠ 20) : Dcp D p q n k = D k := by
  funext b
  unfold Dcp
  rw [if_neg (fun z => h z.1)]
theorem Dcp_20 {D : Nat → Nat → Int} {p q n b : Nat} : Dcp D p q n 20 b = if q ≤ b ∧ b < q + n then D 20 (p + (b - q)) else D 20 b := by
  unfold Dcp
  by_cases h : q ≤ b ∧ b < q + n
  · rw [if_pos ⟨rfl, h⟩, if_pos h]
  · rw [if_neg (fun z => h z.2), if_neg h]
theorem Dcp_R {D : Nat → Nat → Int} (R : Rg D) {p q n : Nat} : Rg (Dcp D p q n) := by
  intro k j
  by_cases h : k = 20
  · subst h
    rw [Dcp_20]
    split
    · exact R 20 _
    · exact R 20 j
  · rw [Dcp_o h]; exact R k j
theorem cchk_t {ζ : Type} {o : Option ζ} {p q n n0 n1 : Nat} (h : p + n ≤ n0 ∧ q + n ≤ n1 ∧ n0 < 2147483648 ∧ n1 < 2147483648) : cchk (iI p) (iI q) (iI n) n0 n1 o = o := by
  unfold cchk
  rw [if_neg]
  have f : ∀ c : Nat, c < 2147483648 → ¬ (iI (c : Int) < 0) := fun c hc z => by
    have := (iI_lt (a := (c : Int)) (b := 0) (by omega) (by omega) (by omega) (by omega)).mp z
    omega
  have e : ∀ c : Nat, c < 2147483648 → (iI (c : Int)).toNatClampNeg = c := fun c hc => ix_n hc
  rw [e p (by omega), e q (by omega), e n (by omega)]
  rintro (z | z | z | z | z)
  · exact f p (by omega) z
  · exact f q (by omega) z
  · exact f n (by omega) z
  · omega
  · omega
theorem m_cp2 {SM U : St} {t b n p : Nat} (ht : t < 4) (hb : b + n ≤ 48) (F : Fr [20, 21] SM U) (h1 : ∀ k, k < n → gI U 21 k = gI SM 20 (p + k)) (h2 : ∀ j, gI U 20 j = gI SM 20 j) : ∃ W, it1 (b_X7_copy_157 (iI t) (iI b) (iI n) (fun S18 => some ((1 : Int32), S18))) 5000 (0 : Int32) U = some (1, W) ∧ Fr [20, 21] SM W ∧ ∀ j, gI W 20 j = if 48 * t + b ≤ j ∧ j < 48 * t + b + n then gI SM 20 (p + (j - (48 * t + b))) else gI SM 20 j := by
  refine it1_inv (fun i x W => x = iI (i : Int) ∧ Fr [20, 21] SM W ∧ (∀ k, k < n → gI W 21 k = gI SM 20 (p + k)) ∧ ∀ j, gI W 20 j = if 48 * t + b ≤ j ∧ j < 48 * t + b + i then gI SM 20 (p + (j - (48 * t + b))) else gI SM 20 j) n (fun o => ∃ W, o = some (1, W) ∧ Fr [20, 21] SM W ∧ ∀ j, gI W 20 j = if 48 * t + b ≤ j ∧ j < 48 * t + b + n then gI SM 20 (p + (j - (48 * t + b))) else gI SM 20 j) ?_ ?_ 5000 0 _ _ (Nat.zero_le _) (by omega) ⟨rfl, F, h1, fun j => ?_⟩
  · rintro i x W hi ⟨rfl, A1, A2, A3⟩ rec
    refine ⟨iI ((i + 1 : Nat) : Int), sI W 20 (48 * t + b + i) (gI SM 20 (p + i)), ⟨rfl, A1.set (by decide), fun k hk => ?_, fun j => ?_⟩, ?_⟩
    · rw [gI_sI_n (by decide)]; exact A2 k hk
    · rw [gI_sI_k]
      by_cases e : j = 48 * t + b + i
      · rw [if_pos e, if_pos (by omega), show j - (48 * t + b) = i by omega]
      · rw [if_neg e, A3]
        by_cases g : 48 * t + b ≤ j ∧ j < 48 * t + b + i
        · rw [if_pos g, if_pos (by omega)]
        · rw [if_neg g, if_neg (by omega)]
    · unfold b_X7_copy_157
      rw [lt_t (by omega), chk_t (by omega), l48, iI_mul, iI_add, iI_add, show ((48 : Int) * (t : Int) + (b : Int) + (i : Int)) = ((48 * t + b + i : Nat) : Int) by push_cast; omega, chk_t (by omega), ix_n (by omega), ix_n (by omega), A2 i hi, nm_eq, l1, iI_add]
      rfl
  · rintro x W ⟨rfl, A1, A2, A3⟩ rec
    unfold b_X7_copy_157
    rw [lt_f (by omega)]
    exact ⟨W, rfl, A1, A3⟩
  · rw [h2, if_neg (by omega)]
theorem m_cp {SM : St} {s t a b n : Nat} (hs : s < 4) (ht : t < 4) (ha : a + n ≤ 48) (hb : b + n ≤ 48) : ∃ W, it1 (b_X7_copy_120 (iI s) (iI a) (iI t) (iI b) (iI n) (fun S16 => it1 (b_X7_copy_157 (iI t) (iI b) (iI n) (fun S18 => some ((1 : Int32), S18))) 5000 (0 : Int32) S16)) 5000 (0 : Int32) SM = some (1, W) ∧ Fr [20, 21] SM W ∧ ∀ j, gI W 20 j = if 48 * t + b ≤ j ∧ j < 48 * t + b + n then gI SM 20 (48 * s + a + (j - (48 * t + b))) else gI SM 20 j := by
  refine it1_inv (fun i x W => x = iI (i : Int) ∧ Fr [20, 21] SM W ∧ (∀ k, k < i → gI W 21 k = gI SM 20 (48 * s + a + k)) ∧ ∀ j, gI W 20 j = gI SM 20 j) n (fun o => ∃ W, o = some (1, W) ∧ Fr [20, 21] SM W ∧ ∀ j, gI W 20 j = if 48 * t + b ≤ j ∧ j < 48 * t + b + n then gI SM 20 (48 * s + a + (j - (48 * t + b))) else gI SM 20 j) ?_ ?_ 5000 0 _ _ (Nat.zero_le _) (by omega) ⟨rfl, Fr.rf, fun k hk => absurd hk (Nat.not_lt_zero _), fun j => rfl⟩
  · rintro i x W hi ⟨rfl, A1, A2, A3⟩ rec
    refine ⟨iI ((i + 1 : Nat) : Int), sI W 21 i (gI SM 20 (48 * s + a + i)), ⟨rfl, A1.set (by decide), fun k hk => ?_, fun j => ?_⟩, ?_⟩
    · rw [gI_sI_k]
      by_cases e : k = i
      · rw [if_pos e, e]
      · rw [if_neg e]; exact A2 k (by omega)
    · rw [gI_sI_n (by decide)]; exact A3 j
    · unfold b_X7_copy_120
      rw [lt_t (by omega), l48, iI_mul, iI_add, iI_add, show ((48 : Int) * (s : Int) + (a : Int) + (i : Int)) = ((48 * s + a + i : Nat) : Int) by push_cast; omega, chk_t (by omega), chk_t (by omega), ix_n (by omega), ix_n (by omega), A3, nm_eq, l1, iI_add]
      rfl
  · rintro x W ⟨rfl, A1, A2, A3⟩ rec
    unfold b_X7_copy_120
    rw [lt_f (by omega)]
    exact m_cp2 ht hb A1 A2 A3
theorem ag_copy : Ag_copy Rel := by
  rintro SX SM ⟨D, R, X, M⟩ x1 x2 x3 x4 x5
  obtain ⟨s, rfl, s1, s2⟩ := iI_of x1
  obtain ⟨a, rfl, a1, a2⟩ := iI_of x2
  obtain ⟨t, rfl, t1, t2⟩ := iI_of x3
  obtain ⟨b, rfl, b1, b2⟩ := iI_of x4
  obtain ⟨n, rfl, n1, n2⟩ := iI_of x5
  unfold m_X6_copy m_X7_copy
  rw [l4, x_below (by omega), bnd_some, ite01, m_sheet (by omega), bnd_some, ite01]
  by_cases q1 : 0 ≤ s ∧ s < 4
  · rw [if_pos q1, if_pos q1, x_below (by omega), bnd_some, ite01, m_sheet (by omega), bnd_some, ite01]
    by_cases q2 : 0 ≤ t ∧ t < 4
    · obtain ⟨s, rfl⟩ : ∃ c : Nat, s = c := ⟨s.toNat, by omega⟩
      obtain ⟨t, rfl⟩ : ∃ c : Nat, t = c := ⟨t.toNat, by omega⟩
      have r17 : 0 ≤ D 17 s ∧ D 17 s ≤ 1 := R 17 s
      have r17' : 0 ≤ D 17 t ∧ D 17 t ≤ 1 := R 17 t
      have r18 : 0 ≤ D 18 s ∧ D 18 s ≤ 2 := R 18 s
      have r18' : 0 ≤ D 18 t ∧ D 18 t ≤ 2 := R 18 t
      have r19 : 0 ≤ D 19 s ∧ D 19 s ≤ 48 := R 19 s
      have r19' : 0 ≤ D 19 t ∧ D 19 t ≤ 48 := R 19 t
      have e17 := M.2.1 s (by omega)
      have e17' := M.2.1 t (by omega)
      have eM : gI SM 18 s = iI (D 18 s) := M.1 18 s (show s < 4 by omega)
      have eM' : gI SM 18 t = iI (D 18 t) := M.1 18 t (show t < 4 by omega)
      have eX : gI SX 23 s = iI (D 18 s) := X.1 18 s (show s < 4 by omega)
      have eX' : gI SX 23 t = iI (D 18 t) := X.1 18 t (show t < 4 by omega)
      rw [if_pos q2, if_pos q2, x_lost R X (by omega), bnd_some, ite10, chk_t (by omega), ix_n (by omega), e17]
      by_cases q3 : D 17 s = 1
      · rw [if_pos q3, eq0_f (by omega), x_lost R X (by omega), bnd_some, ite10, chk_t (by omega), ix_n (by omega), e17']
        by_cases q4 : D 17 t = 1
        · unfold m_X4_formOf
          rw [if_pos q4, eq0_f (by omega), chk_t (by omega), ix_n (by omega), eX, bnd_some, chk_t (by omega), ix_n (by omega), eX', bnd_some, if_eq (by omega), chk_t (by omega), chk_t (by omega), eM, eM', if_eq (by omega)]
          by_cases q5 : D 18 s = D 18 t
          · rw [if_pos q5, if_pos q5, x_holds R X (by omega) q3 (by omega) (by omega), bnd_some, ite01]
            have hM : (if iI a < 0 then bnd (m_X7_meets (iI 2) SM) fun r8 S7 => some (r8, S7) else if iI b < 0 then bnd (m_X7_meets (iI 2) SM) fun r10 S9 => some (r10, S9) else if iI n < 0 then bnd (m_X7_meets (iI 2) SM) fun r12 S11 => some (r12, S11) else chk (iI s) 4 <| if 0 < lg_cmp ((iI a).toInt64 + (iI n).toInt64) (gI SM 19 s).toInt64 then bnd (m_X7_meets (iI 2) SM) fun r14 S13 => some (r14, S13) else chk (iI t) 4 <| if 0 < lg_cmp ((iI b).toInt64 + (iI n).toInt64) (gI SM 19 t).toInt64 then bnd (m_X7_meets (iI 2) SM) fun r20 S19 => some (r20, S19) else it1 (b_X7_copy_120 (iI s) (iI a) (iI t) (iI b) (iI n) (fun S16 => it1 (b_X7_copy_157 (iI t) (iI b) (iI n) (fun S18 => some ((1 : Int32), S18))) 5000 (0 : Int32) S16)) 5000 (0 : Int32) SM) = if 0 ≤ a ∧ 0 ≤ n ∧ a + n ≤ D 19 s ∧ 0 ≤ b ∧ b + n ≤ D 19 t then it1 (b_X7_copy_120 (iI s) (iI a) (iI t) (iI b) (iI n) (fun S16 => it1 (b_X7_copy_157 (iI t) (iI b) (iI n) (fun S18 => some ((1 : Int32), S18))) 5000 (0 : Int32) S16)) 5000 (0 : Int32) SM else some (iI (-10 - 2), sI SM 45 0 (iI 2)) := by
              simp only [m_meets, bnd_some]
              by_cases p1 : a < 0
              · rw [lt0_t (by omega), if_neg (by omega)]
              · by_cases p2 : b < 0
                · rw [lt0_f (by omega), lt0_t (by omega), if_neg (by omega)]
                · by_cases p3 : n < 0
                  · rw [lt0_f (by omega), lt0_f (by omega), lt0_t (by omega), if_neg (by omega)]
                  · rw [lt0_f (by omega), lt0_f (by omega), lt0_f (by omega), chk_t (by omega), M.2.2.1 s (by omega) q3, M.2.2.1 t (by omega) q4, lL_of (by omega), lL_of (by omega), lL_of (by omega), lL_of (by omega), lL_of (by omega), lL_add, lL_add, lL_gt (by omega)]
                    by_cases p4 : D 19 s < a + n
                    · rw [if_pos p4, if_neg (by omega)]
                    · rw [if_neg p4, chk_t (by omega), lL_gt (by omega)]
                      by_cases p5 : D 19 t < b + n
                      · rw [if_pos p5, if_neg (by omega)]
                      · rw [if_neg p5, if_pos (by omega)]
            rw [l2]
            rw [hM]
            by_cases q6 : 0 ≤ a ∧ 0 ≤ n ∧ a + n ≤ D 19 s
            · rw [if_pos q6, x_holds R X (by omega) q4 (by omega) (by omega), bnd_some, ite01]
              by_cases q7 : 0 ≤ b ∧ 0 ≤ n ∧ b + n ≤ D 19 t
              · obtain ⟨a, rfl⟩ : ∃ c : Nat, a = c := ⟨a.toNat, by omega⟩
                obtain ⟨b, rfl⟩ : ∃ c : Nat, b = c := ⟨b.toNat, by omega⟩
                obtain ⟨n, rfl⟩ : ∃ c : Nat, n = c := ⟨n.toNat, by omega⟩
                obtain ⟨W, w1, w2, w3⟩ := m_cp (SM := SM) (s := s) (t := t) (a := a) (b := b) (n := n) (by omega) (by omega) (by omega) (by omega)
                unfold m_X4_carry
                rw [if_pos q7, if_pos (by omega), l48, iI_mul, iI_add, iI_mul, iI_add, eq48', eq48', cchk_t (by omega), ix_n (by omega), ix_n (by omega), ix_n (by omega), nm_eq, bndV_some, w1]
                refine ⟨_, _, _, rfl, rfl, Dcp D (48 * s + a) (48 * t + b) n, Dcp_R R, X.it ⟨fun c d hc => ?_, fun c d => rfl⟩ (fun k hk => Dcp_o (fun e => hk (by rw [e]; decide))) (fun j hj => ?_) ⟨fun j hj => ?_, fun j hj hq i hi => ?_⟩, M.it w2 (by decide) (fun k hk => Dcp_o (fun e => hk (by rw [e]; decide))) (fun j hj => ?_) ⟨fun j hj => ?_, fun j hj hq => ?_, fun j hj hq i hi => ?_⟩⟩
                · rw [gI_sC, if_neg (fun e => hc (by rw [e]; decide))]
                · rw [gI_sC, if_neg (by decide)]; exact X.1 18 j hj
                · rw [gI_sC, if_neg (by decide), Dcp_o (by decide), Dcp_o (by decide)]; exact X.2.1.1 j hj
                · rw [Dcp_o (by decide)] at hq hi
                  rw [gI_sC, if_pos rfl, Dcp_20]
                  unfold va_cpy
                  by_cases g : 48 * t + b ≤ 48 * j + i ∧ 48 * j + i < 48 * t + b + n
                  · rw [if_pos g, if_pos g, Nat.add_assoc]
                    exact X.2.1.2 s (by omega) q3 _ (by omega)
                  · rw [if_neg g, if_neg g]
                    exact X.2.1.2 j hj hq i hi
                · rw [w2.1 _ _ (by decide)]; exact M.1 18 j hj
                · rw [w2.1 _ _ (by decide), Dcp_o (by decide)]; exact M.2.1 j hj
                · rw [Dcp_o (by decide)] at hq
                  rw [w2.1 _ _ (by decide), Dcp_o (by decide)]; exact M.2.2.1 j hj hq
                · rw [Dcp_o (by decide)] at hq hi
                  rw [w3, Dcp_20]
                  by_cases g : 48 * t + b ≤ 48 * j + i ∧ 48 * j + i < 48 * t + b + n
                  · rw [if_pos g, if_pos g, Nat.add_assoc]
                    exact M.2.2.2 s (by omega) q3 _ (by omega)
                  · rw [if_neg g, if_neg g]
                    exact M.2.2.2 j hj hq i hi
              · rw [if_neg q7, if_neg (by omega), x_found, bnd_some]
                exact ⟨_, _, _, rfl, rfl, rel_found R X M (by omega)⟩
            · rw [if_neg q6, if_neg (by omega), x_found, bnd_some]
              exact ⟨_, _, _, rfl, rfl, rel_found R X M (by omega)⟩
          · rw [if_neg q5, if_neg q5, x_found, bnd_some, m_meets, bnd_some]
            exact ⟨_, _, _, rfl, rfl, rel_found R X M (by omega)⟩
        · rw [if_neg q4, eq0_t (by omega), l1, x_found, bnd_some, m_meets, bnd_some]
          exact ⟨_, _, _, rfl, rfl, rel_found R X M (by omega)⟩
      · rw [if_neg q3, eq0_t (by omega), l1, x_found, bnd_some, m_meets, bnd_some]
        exact ⟨_, _, _, rfl, rfl, rel_found R X M (by omega)⟩
    · rw [if_neg q2, if_neg q2]
      exact ⟨_, _, _, rfl, rfl, D, R, X, M⟩
  · rw [if_neg q1, if_neg q1]
    exact ⟨_, _, _, rfl, rfl, D, R, X, M⟩
