/-! whose, count -/
def ob (p : Nat → Bool) (ow : Nat → Int) : Nat → Nat
  | 0 => 0
  | n + 1 => if p n then ob p ow n ||| 2 ^ (ow n).toNat else ob p ow n
theorem ob_lt {p : Nat → Bool} {ow : Nat → Int} (h : ∀ c, 0 ≤ ow c ∧ ow c ≤ 3) : ∀ n, ob p ow n < 16
  | 0 => by simp [ob]
  | n + 1 => by
    have h1 := ob_lt (p := p) h n
    have h2 := h n
    rw [ob]
    split
    · refine Nat.or_lt_two_pow (n := 4) h1 ?_
      rcases (show (ow n).toNat = 0 ∨ (ow n).toNat = 1 ∨ (ow n).toNat = 2 ∨ (ow n).toNat = 3 by omega) with q | q | q | q <;> rw [q] <;> decide
    · exact h1
theorem ob_or {p : Nat → Bool} {ow : Nat → Int} (h : ∀ c, 0 ≤ ow c ∧ ow c ≤ 3) (n : Nat) : nI (ob p ow n) ||| ((1 : Int32) <<< (iI (ow n) &&& 31)) = nI (ob p ow n ||| 2 ^ (ow n).toNat) := by
  have h2 := h n
  obtain ⟨o, ho⟩ : ∃ o : Nat, ow n = o := ⟨(ow n).toNat, by omega⟩
  rw [ho, iI_n, one_shl o (by omega), fa_or, Int.toNat_natCast]
theorem bc16 : ∀ v, v < 16 → bcI (nI v) = nI (pc v 12) := by decide +kernel
/-- has a cell sun in all that was seen -/
def lits (D : Nat → Nat → Int) (c i : Nat) : Bool := lit (wD D) (hD D) (D 3) c (D 14 i).toNat (D 15 i).toNat
def kD (D : Nat → Nat → Int) : Nat := (D 44 0).toNat
def fstN (D : Nat → Nat → Int) (c : Nat) : Nat := fa_first (fun i => !lits D c i) (kD D)
def fitA (D : Nat → Nat → Int) (c : Nat) : Bool := decide (fstN D c = kD D)
theorem kD_i {D : Nat → Nat → Int} (R : Rg D) : ((kD D : Nat) : Int) = D 44 0 ∧ kD D ≤ 8 := by
  have h1 : 0 ≤ D 44 0 ∧ D 44 0 ≤ 8 := R 44 0
  unfold kD
  omega
theorem bs_bit (p : Nat → Bool) : ∀ n j, j < n → bs p n / 2 ^ j % 2 = if p j then 1 else 0
  | 0, _, h => absurd h (Nat.not_lt_zero _)
  | n + 1, j, h => by
    have hl := bs_lt p n
    rw [bs]
    by_cases e : j = n
    · subst e
      by_cases q : p j = true
      · rw [if_pos q, if_pos q, Nat.add_div_right _ (Nat.two_pow_pos j), Nat.div_eq_of_lt hl]
      · rw [if_neg q, if_neg q, Nat.add_zero, Nat.div_eq_of_lt hl]
    · have ih := bs_bit p n j (by omega)
      split
      · have e2 : 2 ^ n = 2 ^ j * (2 * 2 ^ (n - j - 1)) := by
          rw [← Nat.pow_succ', ← Nat.pow_add]
          congr 1
          omega
        rw [e2, Nat.add_mul_div_left _ _ (Nat.two_pow_pos j), Nat.add_mod, Nat.mul_mod_right, Nat.add_zero, Nat.mod_mod]
        exact ih
      · rw [Nat.add_zero]
        exact ih
theorem x_fits {S : St} {D : Nat → Nat → Int} (R : Rg D) (X : RX S D) {c : Nat} (hc : c < ND D) : m_X6_fitsAllSeen (iI c) S = some (if fitA D c = true then 1 else 0, S) := by
  have hk := kD_i R
  have e54 : gI S 54 0 = iI (kD D) := by rw [hk.1]; exact X.1 44 0 (by decide)
  have hf : fstN D c ≤ kD D := fa_first_le _ _
  have bit : ∀ i, i < kD D → ∀ y : St → Option (Int32 × St), (chk (iI i) 8 <| bnd (m_X5_bitsOf (iI c) (gI S 29 (ix (iI i))) S) fun r2 S1 => chk (iI i) 8 <| if ((r2 >>> ((gI S1 30 (ix (iI i))) &&& 31)) &&& (1 : Int32)) = 0 then (some ((0 : Int32), S1)) else y S1) = if lits D c i = true then y S else some (0, S) := by
    intro i hi y
    have r1 : 0 ≤ D 14 i ∧ D 14 i ≤ 3 := R 14 i
    have r2 : 0 ≤ D 15 i ∧ D 15 i ≤ 11 := R 15 i
    have e1 : gI S 29 i = iI (D 14 i) := X.1 14 i (show i < 8 by omega)
    have e2 : gI S 30 i = iI (D 15 i) := X.1 15 i (show i < 8 by omega)
    unfold lits
    obtain ⟨s, hs⟩ : ∃ s : Nat, D 14 i = s := ⟨(D 14 i).toNat, by omega⟩
    obtain ⟨j, hj⟩ : ∃ j : Nat, D 15 i = j := ⟨(D 15 i).toNat, by omega⟩
    have := btl_lt (wD D) (hD D) (D 3) c s
    rw [chk_t (by omega), ix_n (by omega), e1, hs, x_bitsOf X hc (by omega), bnd_some, chk_t (by omega), e2, hj, iI_n j, shr_bit (by omega) (by omega), Int.toNat_natCast, Int.toNat_natCast, btl, bs_bit _ 12 j (by omega)]
    cases lit (wD D) (hD D) (D 3) c s j <;> rfl
  unfold m_X6_fitsAllSeen
  refine it1_inv (fun i x T => x = iI (i : Int) ∧ T = S) (fstN D c) (fun q => q = some (if fitA D c = true then 1 else 0, S)) ?_ ?_ 5000 0 _ S (Nat.zero_le _) (by omega) ⟨rfl, rfl⟩
  · rintro i x T hi ⟨rfl, rfl⟩ rec
    refine ⟨iI ((i + 1 : Nat) : Int), T, ⟨rfl, rfl⟩, ?_⟩
    have hl : lits D c i = true := by
      have := fa_first_no _ _ i hi
      simpa using this
    unfold b_X6_fitsAllSeen_2
    rw [e54, lt_t (by omega), bit i (by omega) (rec (iI i + 1)), if_pos hl, l1, iI_add]
    rfl
  · rintro x T ⟨rfl, rfl⟩ rec
    unfold b_X6_fitsAllSeen_2
    rw [e54]
    by_cases q : fstN D c < kD D
    · have hl : lits D c (fstN D c) = false := by
        have := fa_first_yes _ _ q
        simpa [fstN] using this
      rw [lt_t (by omega), bit _ q (rec (iI (fstN D c : Nat) + 1)), if_neg (by rw [hl]; decide), if_neg (by unfold fitA; rw [decide_eq_true_eq]; omega)]
    · rw [lt_f (by omega), if_pos (by unfold fitA; rw [decide_eq_true_eq]; omega)]
def whB (D : Nat → Nat → Int) : Nat := bs (fitA D) (ND D)
def whO (D : Nat → Nat → Int) : Nat := ob (fitA D) (D 4) (ND D)
theorem x_whose {S : St} {D : Nat → Nat → Int} (R : Rg D) (X : RX S D) {w : Int} (hw : 0 ≤ w ∧ w < 2) : m_X6_whose (iI w) S = some (if w = 0 then nI (whB D) else nI (pc (whO D) 12), S) := by
  have hN := ND_le (D := D)
  have e43 : gI S 43 0 = iI ((ND D : Nat) : Int) := X.2.2.1.1.2.1
  have h4 : ∀ c, 0 ≤ D 4 c ∧ D 4 c ≤ 3 := fun c => R 4 c
  unfold m_X6_whose
  rw [l2, x_below (by omega), bnd_some, ite01, if_pos hw]
  refine it3_inv (fun i x y z T => x = nI (bs (fitA D) i) ∧ y = nI (ob (fitA D) (D 4) i) ∧ z = iI (i : Int) ∧ T = S) (ND D) (fun q => q = some (if w = 0 then nI (whB D) else nI (pc (whO D) 12), S)) ?_ ?_ 5000 0 _ _ _ S (Nat.zero_le _) (by omega) ⟨rfl, rfl, rfl, rfl⟩
  · rintro i x y z T hi ⟨rfl, rfl, rfl, rfl⟩ rec
    refine ⟨nI (bs (fitA D) (i + 1)), nI (ob (fitA D) (D 4) (i + 1)), iI ((i + 1 : Nat) : Int), T, ⟨rfl, rfl, rfl, rfl⟩, ?_⟩
    unfold b_X6_whose_18 m_X1_cells
    have e4 : gI T 25 i = iI (D 4 i) := X.1 4 i (show i < 12 by omega)
    rw [bnd_some, e43, lt_t (by omega), x_fits R X hi, bnd_some, ite01, bs, ob]
    by_cases q : fitA D i = true
    · rw [if_pos q, if_pos q, if_pos q, iI_n i, bs_or _ (by omega), nm_eq, ← iI_n i, chk_t (by omega), ix_n (by omega), e4, ob_or h4, nm_eq, l1, iI_add]
      rfl
    · rw [if_neg q, if_neg q, if_neg q, l1, iI_add]
      rfl
  · rintro x y z T ⟨rfl, rfl, rfl, rfl⟩ rec
    unfold b_X6_whose_18 m_X1_cells
    rw [bnd_some, e43, lt_f (by omega)]
    dsimp only
    rw [bc_any, bnd_some, bc16 _ (ob_lt h4 _)]
    rcases (show w = 0 ∨ w = 1 by omega) with rfl | rfl
    · rfl
    · rfl
theorem m_whose {S : St} {D : Nat → Nat → Int} (R : Rg D) (M : RM_ S D) {w : Int} (hw : 0 ≤ w ∧ w < 2) : ∃ T, m_X7_whoseOf (iI w) S = some (if w = 0 then nI (whB D) else nI (pc (whO D) 12), T) ∧ Fr scrM S T ∧ Vw T D := by
  have hN := ND_le (D := D)
  have hk := kD_i R
  have h4 : ∀ c, 0 ≤ D 4 c ∧ D 4 c ≤ 3 := fun c => R 4 c
  obtain ⟨T, h1, h2, V⟩ := m_flt R M
  have e44 : gI T 44 0 = iI (kD D) := by rw [hk.1]; exact V.1.1 44 0 (by decide)
  refine ⟨T, ?_, h2, V⟩
  unfold m_X7_whoseOf
  rw [h1, bnd_some]
  refine it3_inv (fun i x y z U => x = nI (bs (fitA D) i) ∧ y = nI (ob (fitA D) (D 4) i) ∧ z = iI (i : Int) ∧ U = T) (ND D) (fun q => q = some (if w = 0 then nI (whB D) else nI (pc (whO D) 12), T)) ?_ ?_ 5000 0 _ _ _ T (Nat.zero_le _) (by omega) ⟨rfl, rfl, rfl, rfl⟩
  · rintro i x y z U hi ⟨rfl, rfl, rfl, rfl⟩ rec
    have hf : fstN D i ≤ kD D := fa_first_le _ _
    refine ⟨nI (bs (fitA D) (i + 1)), nI (ob (fitA D) (D 4) (i + 1)), iI ((i + 1 : Nat) : Int), U, ⟨rfl, rfl, rfl, rfl⟩, ?_⟩
    unfold b_X7_whoseOf_13
    have e4 : gI U 4 i = iI (D 4 i) := V.1.1 4 i (show i < 12 by omega)
    rw [V.cells, lt_t (by omega)]
    refine it2_inv (fun j f y Q => f = (if j ≤ fstN D i then 1 else 0) ∧ y = iI (j : Int) ∧ Q = U) (kD D) (fun q => q = rec (nI (bs (fitA D) (i + 1))) (nI (ob (fitA D) (D 4) (i + 1))) (iI ((i + 1 : Nat) : Int)) U) ?_ ?_ 5000 0 _ _ U (Nat.zero_le _) (by omega) ⟨by rw [if_pos (Nat.zero_le _)], rfl, rfl⟩
    · rintro j f y Q hj ⟨rfl, rfl, rfl⟩ rec2
      refine ⟨if j + 1 ≤ fstN D i then 1 else 0, iI ((j + 1 : Nat) : Int), Q, ⟨rfl, rfl, rfl⟩, ?_⟩
      unfold b_X7_whoseOf_28
      rw [e44, lt_t (by omega), ite01]
      by_cases q : j ≤ fstN D i
      · have r1 : 0 ≤ D 14 j ∧ D 14 j ≤ 3 := R 14 j
        have r2 : 0 ≤ D 15 j ∧ D 15 j ≤ 11 := R 15 j
        have e1 : gI Q 14 j = iI (D 14 j) := V.1.1 14 j (show j < 8 by omega)
        have e2 : gI Q 15 j = iI (D 15 j) := V.1.1 15 j (show j < 8 by omega)
        have hls := lit_shd (wD D) (hD D) (D 3) i (D 14 j).toNat (D 15 j).toNat
        have hl1 : j < fstN D i → lits D i j = true := fun g => by
          have := fa_first_no _ _ j g
          simpa using this
        have hl2 : fstN D i = j → lits D i j = false := fun g => by
          have := fa_first_yes (fun i' => !lits D i i') (kD D) (show fstN D i < kD D by omega)
          have g2 : fa_first (fun i' => !lits D i i') (kD D) = j := g
          rw [g2] at this
          simpa using this
        obtain ⟨s, hs⟩ : ∃ s : Nat, D 14 j = s := ⟨(D 14 j).toNat, by omega⟩
        obtain ⟨m, hm⟩ : ∃ m : Nat, D 15 j = m := ⟨(D 15 j).toNat, by omega⟩
        unfold lits at hl1 hl2
        rw [hs, hm, Int.toNat_natCast, Int.toNat_natCast] at hls hl1 hl2
        have hb : -1 ≤ shd (wD D) (hD D) (D 3) i (sdh m) (stp s m) ∧ shd (wD D) (hD D) (D 3) i (sdh m) (stp s m) ≤ 100 := by
          unfold shd
          split
          · rename_i g
            have := ((gr_D R (by omega)).in_row (g := sdh m) (d := fa_first (shp (hD D) (D 3) i (sdh m) (stp s m)) (rch (wD D) i (sdh m)) + 1) hi (by omega)).1
            omega
          · omega
        rw [if_pos q, chk_t (by omega), chk_t (by omega), ix_n (by omega), e1, e2, hs, hm, m_shader (gr_D R (by omega)) (gvv V.1.1 V.2) hi (by omega) (by omega), bnd_some]
        by_cases g : j < fstN D i
        · rw [eqm_t (hls.mp (hl1 g)), if_pos (by omega), l1, iI_add]
          rfl
        · have e0 := hl2 (by omega)
          have ne : shd (wD D) (hD D) (D 3) i (sdh m) (stp s m) ≠ -1 := fun z => by
            rw [hls.mpr z] at e0
            exact Bool.noConfusion e0
          rw [eqm_f (by omega), if_neg (by omega), l1, iI_add]
          rfl
      · rw [if_neg q, if_neg (by omega), l1, iI_add]
        rfl
    · rintro f y Q ⟨rfl, rfl, rfl⟩ rec2
      unfold b_X7_whoseOf_28
      rw [e44, lt_f (by omega)]
      dsimp only
      simp only [nm_eq, ite01]
      rw [bs, ob]
      by_cases q : kD D ≤ fstN D i
      · have hq : fitA D i = true := by unfold fitA; rw [decide_eq_true_eq]; omega
        rw [if_pos q, if_pos q, if_pos hq, if_pos hq, iI_n i, bs_or _ (by omega), ← iI_n i, chk_t (by omega), ix_n (by omega), e4, ob_or h4, l1, iI_add]
        rfl
      · have hq : ¬ fitA D i = true := by unfold fitA; rw [decide_eq_true_eq]; omega
        rw [if_neg q, if_neg q, if_neg hq, if_neg hq, or_0, or_0, l1, iI_add]
        rfl
  · rintro x y z U ⟨rfl, rfl, rfl, rfl⟩ rec
    unfold b_X7_whoseOf_13
    rw [V.cells, lt_f (by omega)]
    dsimp only
    have := ob_lt (p := fitA D) h4 (ND D)
    rw [m_ones (by omega), bnd_some]
    rcases (show w = 0 ∨ w = 1 by omega) with rfl | rfl
    · rfl
    · rfl
theorem ag_whose : Ag_whose Rel := by
  rintro SX SM ⟨D, R, X, M⟩ x1
  obtain ⟨a, rfl, a1, a2⟩ := iI_of x1
  by_cases q1 : 0 ≤ a ∧ a < 2
  · obtain ⟨T, t1, t2, V⟩ := m_whose R M q1
    refine ⟨_, _, T, x_whose R X q1, ?_, D, R, X, V.1⟩
    unfold m_X7_whose
    rw [m_inN (n := 2) l1 (by omega), bnd_some, ite01, if_pos q1, t1, bnd_some]
  · refine ⟨-2, SX, SM, ?_, ?_, D, R, X, M⟩
    · unfold m_X6_whose
      rw [l2, x_below (by omega), bnd_some, ite01, if_neg q1]
    · unfold m_X7_whose
      rw [m_inN (n := 2) l1 (by omega), bnd_some, ite01, if_neg q1]
