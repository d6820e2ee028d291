/-! count -/
def cS (D : Nat → Nat → Int) (w : Int) (c : Nat) : Int := if w = 3 then (if 0 < D 3 c then 1 else 0) else if w = 6 then yD D c else 0
def owO (D : Nat → Nat → Int) : Nat := ob (fun _ => true) (D 4) (ND D)
def cntV (D : Nat → Nat → Int) (w : Int) : Int := if w = 0 then ND D else if w = 1 then D 40 0 else if w = 2 then rD D else if w = 3 then sm (cS D 3) (ND D) else if w = 4 then (pc (owO D) 12 : Nat) else if w = 5 then D 44 0 else if w = 6 then sm (cS D 6) (ND D) else if w = 7 then sm (D 5) 4 else D 45 0
theorem x_standing {S : St} {D : Nat → Nat → Int} (R : Rg D) (X : RX S D) : m_X6_countStanding S = some (iI (sm (cS D 3) (ND D)), S) := by
  have hN := ND_le (D := D)
  have e43 : gI S 43 0 = iI ((ND D : Nat) : Int) := X.2.2.1.1.2.1
  unfold m_X6_countStanding
  refine it2_inv (fun i x y T => x = iI (sm (cS D 3) i) ∧ y = iI (i : Int) ∧ T = S) (ND D) (fun q => q = some (iI (sm (cS D 3) (ND D)), S)) ?_ ?_ 5000 0 _ _ S (Nat.zero_le _) (by omega) ⟨rfl, rfl, rfl⟩
  · rintro i x y T hi ⟨rfl, rfl, rfl⟩ rec
    refine ⟨iI (sm (cS D 3) (i + 1)), iI ((i + 1 : Nat) : Int), T, ⟨rfl, rfl, rfl⟩, ?_⟩
    have e3 : gI T 10 i = iI (D 3 i) := X.1 3 i (show i < 12 by omega)
    have r3 : 0 ≤ D 3 i ∧ D 3 i ≤ 20 := R 3 i
    unfold b_X6_countStanding_4 m_X1_cells m_X5_standingOn
    rw [bnd_some, e43, lt_t (by omega), chk_t (by omega), ix_n (by omega), e3, bnd_some, sm, show cS D 3 i = if 0 < D 3 i then 1 else 0 from rfl]
    by_cases q : 0 < D 3 i
    · rw [gt0_t (by omega), if_pos q, l1, iI_add, iI_add]
      rfl
    · rw [gt0_f (by omega), if_neg q, l1, iI_add, Int.add_zero]
      rfl
  · rintro x y T ⟨rfl, rfl, rfl⟩ rec
    unfold b_X6_countStanding_4 m_X1_cells
    rw [bnd_some, e43, lt_f (by omega)]
theorem x_owners {S : St} {D : Nat → Nat → Int} (R : Rg D) (X : RX S D) : m_X6_countOwners S = some (nI (pc (owO D) 12), S) := by
  have hN := ND_le (D := D)
  have e43 : gI S 43 0 = iI ((ND D : Nat) : Int) := X.2.2.1.1.2.1
  have h4 : ∀ c, 0 ≤ D 4 c ∧ D 4 c ≤ 3 := fun c => R 4 c
  unfold m_X6_countOwners
  refine it2_inv (fun i x y T => x = nI (ob (fun _ => true) (D 4) i) ∧ y = iI (i : Int) ∧ T = S) (ND D) (fun q => q = some (nI (pc (owO D) 12), S)) ?_ ?_ 5000 0 _ _ S (Nat.zero_le _) (by omega) ⟨rfl, rfl, rfl⟩
  · rintro i x y T hi ⟨rfl, rfl, rfl⟩ rec
    refine ⟨nI (ob (fun _ => true) (D 4) (i + 1)), iI ((i + 1 : Nat) : Int), T, ⟨rfl, rfl, rfl⟩, ?_⟩
    have e4 : gI T 25 i = iI (D 4 i) := X.1 4 i (show i < 12 by omega)
    unfold b_X6_countOwners_4 m_X1_cells
    rw [bnd_some, e43, lt_t (by omega), chk_t (by omega), ix_n (by omega), e4, ob_or h4, nm_eq, l1, iI_add]
    rfl
  · rintro x y T ⟨rfl, rfl, rfl⟩ rec
    unfold b_X6_countOwners_4 m_X1_cells
    rw [bnd_some, e43, lt_f (by omega)]
    dsimp only
    rw [bc_any, bnd_some, bc16 _ (ob_lt h4 _)]
    rfl
theorem x_allYears {S : St} {D : Nat → Nat → Int} (X : RX S D) : m_X5_allYears S = some (iI (sm (cS D 6) (ND D)), S) := by
  have hN := ND_le (D := D)
  have e43 : gI S 43 0 = iI ((ND D : Nat) : Int) := X.2.2.1.1.2.1
  unfold m_X5_allYears
  refine it2_inv (fun i x y T => x = iI (sm (cS D 6) i) ∧ y = iI (i : Int) ∧ T = S) (ND D) (fun q => q = some (iI (sm (cS D 6) (ND D)), S)) ?_ ?_ 5000 0 _ _ S (Nat.zero_le _) (by omega) ⟨rfl, rfl, rfl⟩
  · rintro i x y T hi ⟨rfl, rfl, rfl⟩ rec
    refine ⟨iI (sm (cS D 6) (i + 1)), iI ((i + 1 : Nat) : Int), T, ⟨rfl, rfl, rfl⟩, ?_⟩
    unfold b_X5_allYears_4 m_X1_cells
    rw [bnd_some, e43, lt_t (by omega), chk_t (by omega), ix_n (by omega), X.2.2.1.2.2 i hi, iI_add, nm_eq, l1, iI_add]
    rfl
  · rintro x y T ⟨rfl, rfl, rfl⟩ rec
    unfold b_X5_allYears_4 m_X1_cells
    rw [bnd_some, e43, lt_f (by omega)]
theorem x_allDays {S : St} {D : Nat → Nat → Int} (X : RX S D) : m_X5_allDays S = some (iI (sm (D 5) 4), S) := by
  unfold m_X5_allDays
  refine it2_inv (fun i x y T => x = iI (sm (D 5) i) ∧ y = iI (i : Int) ∧ T = S) 4 (fun q => q = some (iI (sm (D 5) 4), S)) ?_ ?_ 5000 0 _ _ S (Nat.zero_le _) (by omega) ⟨rfl, rfl, rfl⟩
  · rintro i x y T hi ⟨rfl, rfl, rfl⟩ rec
    refine ⟨iI (sm (D 5) (i + 1)), iI ((i + 1 : Nat) : Int), T, ⟨rfl, rfl, rfl⟩, ?_⟩
    have e5 : gI T 11 i = iI (D 5 i) := X.1 5 i (show i < 4 by omega)
    unfold b_X5_allDays_4
    rw [l4, lt_t (by omega), chk_t (by omega), ix_n (by omega), e5, iI_add, nm_eq, l1, iI_add]
    rfl
  · rintro x y T ⟨rfl, rfl, rfl⟩ rec
    unfold b_X5_allDays_4
    rw [l4, lt_f (by omega)]
theorem tsw_in {ζ : Type} {l : List (Option ζ)} {d : Option ζ} {j : Nat} (hj : j ≤ 8) : tsw (iI j) 0 8 l d = l.getD j none := by
  unfold tsw
  rw [iI_toInt (by omega) (by omega), if_neg (by omega), Int.sub_zero, Int.toNat_natCast]
theorem tsw_out {ζ : Type} {l : List (Option ζ)} {d : Option ζ} {a : Int} (h : -2147483648 ≤ a ∧ a < 2147483648) (hj : a < 0 ∨ 8 < a) : tsw (iI a) 0 8 l d = d := by
  unfold tsw
  rw [iI_toInt (by omega) (by omega), if_pos hj]
theorem x_count {S : St} {D : Nat → Nat → Int} (R : Rg D) (X : RX S D) {j : Nat} (hj : j ≤ 8) : m_X6_count (iI j) S = some (iI (cntV D j), S) := by
  have e1 : gI S 40 0 = iI (D 40 0) := X.1 40 0 (by decide)
  have e5 : gI S 54 0 = iI (D 44 0) := X.1 44 0 (by decide)
  have e8 : gI S 55 0 = iI (D 45 0) := X.1 45 0 (by decide)
  have e43 : gI S 43 0 = iI ((ND D : Nat) : Int) := X.2.2.1.1.2.1
  have e41 : gI S 41 0 = iI ((rD D : Nat) : Int) := X.2.2.1.1.2.2.2.1
  unfold m_X6_count m_X1_cells m_X1_bytes m_X1_rows
  rw [tsw_in hj, x_standing R X, x_owners R X, x_allYears X, x_allDays X, e1, e5, e8, e43, e41]
  rcases (show j = 0 ∨ j = 1 ∨ j = 2 ∨ j = 3 ∨ j = 4 ∨ j = 5 ∨ j = 6 ∨ j = 7 ∨ j = 8 by omega) with rfl | rfl | rfl | rfl | rfl | rfl | rfl | rfl | rfl <;> first | rfl | (show some (nI _, S) = some (iI _, S); rw [← iI_n]; rfl)
theorem m_sum {S : St} {D : Nat → Nat → Int} (R : Rg D) (M : RM_ S D) {w : Int} (hw : w = 0 ∨ w = 2 ∨ w = 3 ∨ w = 4 ∨ w = 6 ∨ w = 7) : ∃ T, m_X7_sumOf (iI w) S = some (iI (cntV D w), T) ∧ Fr scrM S T ∧ Vw T D := by
  have hN := ND_le (D := D)
  have h4 : ∀ c, 0 ≤ D 4 c ∧ D 4 c ≤ 3 := fun c => R 4 c
  obtain ⟨T, h1, h2, V⟩ := m_flt R M
  refine ⟨T, ?_, h2, V⟩
  unfold m_X7_sumOf
  rw [h1, bnd_some]
  refine it3_inv (fun i x y z U => x = iI (sm (cS D w) i) ∧ y = nI (ob (fun _ => true) (D 4) i) ∧ z = iI (i : Int) ∧ U = T) (ND D) (fun q => q = some (iI (cntV D w), T)) ?_ ?_ 5000 0 _ _ _ T (Nat.zero_le _) (by omega) ⟨rfl, rfl, rfl, rfl⟩
  · rintro i x y z U hi ⟨rfl, rfl, rfl, rfl⟩ rec
    refine ⟨iI (sm (cS D w) (i + 1)), nI (ob (fun _ => true) (D 4) (i + 1)), iI ((i + 1 : Nat) : Int), U, ⟨rfl, rfl, rfl, rfl⟩, ?_⟩
    unfold b_X7_sumOf_13
    have e4 : gI U 4 i = iI (D 4 i) := V.1.1 4 i (show i < 12 by omega)
    have e3 : gI U 3 i = iI (D 3 i) := V.1.1 3 i (show i < 12 by omega)
    have r3 : 0 ≤ D 3 i ∧ D 3 i ≤ 20 := R 3 i
    rw [V.cells, lt_t (by omega), m_year (gr_D R (by omega)) (gvv V.1.1 V.2) hi, bnd_some]
    simp only [nm_eq, chk_t (a := (i : Int)) (n := 12) (by omega), ix_n (c := i) (by omega), e4, e3, ob_or h4]
    rw [sm]
    by_cases q3 : w = 3
    · subst q3
      rw [l3, eq_t rfl, show cS D 3 i = if 0 < D 3 i then 1 else 0 from rfl]
      by_cases g : 0 < D 3 i
      · rw [gt0_t (by omega), if_pos g, l1, iI_add, iI_add]
        rfl
      · rw [gt0_f (by omega), if_neg g, iI_0, iI_add, l1, iI_add]
        rfl
    · rw [l3, eq_f (by omega), l6]
      by_cases q6 : w = 6
      · subst q6
        rw [eq_t rfl, iI_add, l1, iI_add]
        rfl
      · rw [eq_f (by omega), show cS D w i = 0 by unfold cS; rw [if_neg q3, if_neg q6], iI_0, iI_add, l1, iI_add]
        rfl
  · rintro x y z U ⟨rfl, rfl, rfl, rfl⟩ rec
    unfold b_X7_sumOf_13
    rw [V.cells, lt_f (by omega)]
    dsimp only
    have hob := ob_lt (p := fun _ => true) h4 (ND D)
    have e43 : gI U 43 0 = iI ((rD D : Nat) : Int) := V.2.2.2.1
    have c0 : w ≠ 3 → w ≠ 6 → ∀ n, sm (cS D w) n = 0 := fun g1 g2 n => by
      induction n with
      | zero => rfl
      | succ n ih => rw [sm, ih]; unfold cS; rw [if_neg g1, if_neg g2]; rfl
    have fin : ∀ v : Int, (w = 3 ∨ w = 6 ∨ w = 7 → v = cntV D w) → (if iI w = 0 then (some ((gI U 41 0), U)) else if iI w = (2 : Int32) then (some ((gI U 43 0), U)) else if iI w = (4 : Int32) then (bnd (m_X7_ones (nI (ob (fun _ => true) (D 4) (ND D))) U) fun r17 S16 => some (r17, S16)) else some (iI v, U)) = some (iI (cntV D w), U) := by
      intro v hv
      rw [V.cells, e43, m_ones (by omega), bnd_some]
      rcases hw with rfl | rfl | rfl | rfl | rfl | rfl
      · rfl
      · rfl
      · rw [hv (Or.inl rfl)]; rfl
      · show some (nI _, U) = some (iI _, U)
        rw [← iI_n]; rfl
      · rw [hv (Or.inr (Or.inl rfl))]; rfl
      · rw [hv (Or.inr (Or.inr rfl))]; rfl
    by_cases q7 : w = 7
    · refine it2_inv (fun i x y Q => x = iI (sm (D 5) i) ∧ y = iI (i : Int) ∧ Q = U) 4 (fun q => q = some (iI (cntV D w), U)) ?_ ?_ 5000 0 _ _ U (Nat.zero_le _) (by omega) ⟨by rw [c0 (by omega) (by omega)]; rfl, rfl, rfl⟩
      · rintro i x y Q hi ⟨rfl, rfl, rfl⟩ rec2
        refine ⟨iI (sm (D 5) (i + 1)), iI ((i + 1 : Nat) : Int), Q, ⟨rfl, rfl, rfl⟩, ?_⟩
        have e5 : gI Q 5 i = iI (D 5 i) := V.1.1 5 i (show i < 4 by omega)
        unfold b_X7_sumOf_87
        rw [l4, lt_t (by omega), l7, eq_t q7, chk_t (by omega), ix_n (by omega), e5, iI_add, nm_eq, l1, iI_add]
        rfl
      · rintro x y Q ⟨rfl, rfl, rfl⟩ rec2
        unfold b_X7_sumOf_87
        rw [l4, lt_f (by omega)]
        exact fin _ (fun _ => by subst q7; rfl)
    · refine it2_inv (fun i x y Q => x = iI (sm (cS D w) (ND D)) ∧ y = iI 0 ∧ Q = U) 0 (fun q => q = some (iI (cntV D w), U)) (fun i _ _ _ hi => absurd hi (Nat.not_lt_zero _)) ?_ 5000 0 _ _ U (Nat.zero_le _) (by omega) ⟨rfl, rfl, rfl⟩
      rintro x y Q ⟨rfl, rfl, rfl⟩ rec2
      unfold b_X7_sumOf_87
      rw [l4, lt_t (by omega), l7, eq_f (by omega)]
      refine fin _ (fun g => ?_)
      rcases g with rfl | rfl | rfl
      · rfl
      · rfl
      · exact absurd rfl q7
theorem m_count {S : St} {D : Nat → Nat → Int} (R : Rg D) (M : RM_ S D) {j : Nat} (hj : j ≤ 8) : ∃ T, m_X7_count (iI j) S = some (iI (cntV D j), T) ∧ RM_ T D := by
  have e1 : gI S 40 0 = iI (D 40 0) := M.1 40 0 (by decide)
  have e5 : gI S 44 0 = iI (D 44 0) := M.1 44 0 (by decide)
  have e8 : gI S 45 0 = iI (D 45 0) := M.1 45 0 (by decide)
  unfold m_X7_count
  rw [tsw_in hj, e1, e5, e8]
  by_cases q : j = 1 ∨ j = 5 ∨ j = 8
  · refine ⟨S, ?_, M⟩
    rcases q with rfl | rfl | rfl <;> rfl
  · obtain ⟨T, t1, t2, V⟩ := m_sum R M (w := (j : Int)) (by omega)
    refine ⟨T, ?_, V.1⟩
    rw [t1, bnd_some]
    rcases (show j = 0 ∨ j = 2 ∨ j = 3 ∨ j = 4 ∨ j = 6 ∨ j = 7 by omega) with rfl | rfl | rfl | rfl | rfl | rfl <;> rfl
theorem ag_count : Ag_count Rel := by
  rintro SX SM ⟨D, R, X, M⟩ x1
  obtain ⟨a, rfl, a1, a2⟩ := iI_of x1
  by_cases q1 : 0 ≤ a ∧ a ≤ 8
  · obtain ⟨j, rfl⟩ : ∃ j : Nat, a = j := ⟨a.toNat, by omega⟩
    obtain ⟨T, t1, t2⟩ := m_count R M (j := j) (by omega)
    exact ⟨_, _, T, x_count R X (by omega), t1, D, R, X, t2⟩
  · refine ⟨-2, SX, SM, ?_, ?_, D, R, X, M⟩
    · unfold m_X6_count
      rw [tsw_out (by omega) (by omega)]
    · unfold m_X7_count
      rw [tsw_out (by omega) (by omega)]
