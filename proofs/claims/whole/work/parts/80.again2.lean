theorem x_fall {S : St} {D : Nat → Nat → Int} (R : Rg D) (X : RX S D) {c : Nat} (hc : c < ND D) : ∃ T, m_X6_weighFall (iI c) S = some T ∧ Fr [28] S T ∧ ∀ d, d < ND D → gI T 28 d = iI (yD (upD D 3 c 0) d) := by
  have hN := ND_le (D := D)
  have e10 : gI S 10 c = iI (D 3 c) := X.1 3 c (show c < 12 by omega)
  have e43 : gI S 43 0 = iI ((ND D : Nat) : Int) := X.2.2.1.1.2.1
  have RE : Rg (upD D 3 c 0) := R.up (by decide)
  have F5 : Fr [10] S (sI S 10 c (iI 0)) := Fr.rf.set (by decide)
  have X5 : GX (sI S 10 c (iI 0)) (wD D) (ND D) (hD D) (upD D 3 c 0 3) (D 5) := gxx (D := upD D 3 c 0) (X.1.up (k := 3) (by decide) c 0) (X.2.2.1.1.fr F5 (by decide))
  have GE : Gr (wD D) (ND D) (hD D) (upD D 3 c 0 3) (D 5) := gr_D (D := upD D 3 c 0) RE (show 0 < ND D by omega)
  unfold m_X6_weighFall m_X5_build
  rw [chk_t (by omega), ix_n (by omega), nm_eq, chk_t (by omega), nm_eq, bnd_some, e10, iI_0]
  refine it1_inv (fun i x U => x = iI (i : Int) ∧ Fr [28] (sI S 10 c (iI 0)) U ∧ ∀ d, d < i → gI U 28 d = iI (yD (upD D 3 c 0) d)) (ND D) (fun q => ∃ T, q = some T ∧ Fr [28] S T ∧ ∀ d, d < ND D → gI T 28 d = iI (yD (upD D 3 c 0) d)) ?_ ?_ 5000 0 _ _ (Nat.zero_le _) (by omega) ⟨rfl, Fr.rf, fun o ho => absurd ho (Nat.not_lt_zero _)⟩
  · rintro i x U hi ⟨rfl, A1, A2⟩ rec
    have e43' : gI U 43 0 = iI ((ND D : Nat) : Int) := by rw [A1.1 _ _ (by decide), gI_sI_n (by decide), e43]
    have eE : m_X5_yearAsBuilt (iI (i : Int)) U = some (iI (yD (upD D 3 c 0) i), U) := x_year GE (X5.fr A1 (by decide)) hi
    refine ⟨iI ((i + 1 : Nat) : Int), sI U 28 i (iI (yD (upD D 3 c 0) i)), ⟨rfl, A1.set (by decide), fun d hd => ?_⟩, ?_⟩
    · rw [gI_sI_k]
      by_cases e : d = i
      · rw [if_pos e, e]
      · rw [if_neg e]; exact A2 d (by omega)
    · unfold b_X6_weighFall_12 m_X1_cells
      rw [bnd_some, e43', lt_t (by omega), eE, bnd_some, chk_t (by omega), ix_n (by omega), nm_eq, l1, iI_add]
      rfl
  · rintro x U ⟨rfl, A1, A2⟩ rec
    have e43' : gI U 43 0 = iI ((ND D : Nat) : Int) := by rw [A1.1 _ _ (by decide), gI_sI_n (by decide), e43]
    unfold b_X6_weighFall_12 m_X1_cells
    rw [bnd_some, e43', lt_f (by omega)]
    dsimp only
    rw [chk_t (by omega), nm_eq, chk_t (by omega), nm_eq, bnd_some]
    refine ⟨_, rfl, ⟨fun a b ha => ?_, fun a b => ?_⟩, fun d hd => ?_⟩
    · rw [gI_sI]
      by_cases q : a = 10
      · rw [if_pos q, q]
        by_cases q2 : b = c
        · rw [if_pos q2, q2, ← e10]
        · rw [if_neg q2, A1.1 _ _ (by decide), gI_sI_k, if_neg q2]
      · rw [if_neg q, A1.1 _ _ ha, gI_sI_n q]
    · show gL U a b = _
      rw [A1.2]
      rfl
    · rw [gI_sI_n (by decide)]; exact A2 d hd
def agD (D : Nat → Nat → Int) (c : Nat) (z : Int) : Int := agP (wD D) (ND D) (yD (upD D 3 c 0)) z (fpD D).toNat
def agV (D : Nat → Nat → Int) (c : Nat) (z a : Int) : Int := if D 3 c = 0 ∨ fpD D = -1 then -3 else if a = 0 then (if agD D c z = -1 then -1 else mvA (fpD D).toNat (agD D c z).toNat) else agD D c z
theorem yE_bd {D : Nat → Nat → Int} (R : Rg D) {c : Nat} (d : Nat) (hd : d < ND D) : 0 ≤ yD (upD D 3 c 0) d ∧ yD (upD D 3 c 0) d ≤ 4752 := yD_bd (D := upD D 3 c 0) (R.up (by decide)) (show 0 < ND D by omega) d
theorem x_again {S : St} {D : Nat → Nat → Int} (R : Rg D) (X : RX S D) {c : Nat} {z a : Int} (hc : c < ND D) (hz : 0 ≤ z ∧ z < 100000) (ha : 0 ≤ a ∧ a < 2) : ∃ T, m_X6_again (iI c) (iI z) (iI a) S = some (iI (agV D c z a), T) ∧ RX T D := by
  have hN := ND_le (D := D)
  have hp := pw12 hN
  have r3 : 0 ≤ D 3 c ∧ D 3 c ≤ 20 := R 3 c
  obtain ⟨T, t1, XT, t3, t4⟩ := x_know R X
  have e10 : gI T 10 c = iI (D 3 c) := XT.1 3 c (show c < 12 by omega)
  unfold m_X6_again m_X5_standingOn m_X2_firstPart m_X2_fewestMoved m_X2_partAfter agV
  rw [x_isCell X (by omega), bnd_some, ite01, if_pos (by omega), l100000, x_below (by omega), bnd_some, ite01, if_pos hz, l2, x_below (by omega), bnd_some, ite01, if_pos ha, t1, bndV_some, chk_t (by omega), ix_n (by omega), e10, bnd_some]
  by_cases q1 : D 3 c = 0
  · rw [eq0_t q1, if_pos (Or.inl q1)]
    exact ⟨T, rfl, XT⟩
  · rw [eq0_f (by omega), bnd_some, t3]
    rcases fp_c D with q | ⟨j, j1, j2⟩
    · rw [eqm_t q, if_pos (Or.inr q)]
      exact ⟨T, rfl, XT⟩
    · obtain ⟨U, u1, u2, u3⟩ := x_fall R XT hc
      have XU : RX U D := XT.scr (u2.mono (by decide))
      obtain ⟨W, w1, w2, w3, w4⟩ := x_agl (S := U) (y := yD (upD D 3 c 0)) (w := wD D) (N := ND D) (f := 2 * j + 1) (z := z) hN (fun h => by have := wD_4 R h; omega) wD_le XU.2.2.1.1.2.1 XU.2.2.1.1.2.2.1 (fun d hd => (XU.2.2.1.1.2.2.2.2 d hd).2) u3 (yE_bd R) (by rw [u2.1 _ _ (by decide), t3, j2]) (by omega) hz
      have ef : (fpD D).toNat = 2 * j + 1 := by omega
      have ea : agD D c z = agP (wD D) (ND D) (yD (upD D 3 c 0)) z (2 * j + 1) := by unfold agD; rw [ef]
      refine ⟨W, ?_, XU.scr (w2.mono (by decide))⟩
      rw [eqm_f (by omega), u1, bndV_some, w1, bndV_some, if_neg (show ¬ (D 3 c = 0 ∨ fpD D = -1) by omega), ef, ea]
      rcases (show a = 0 ∨ a = 1 by omega) with rfl | rfl
      · rw [eq0_t rfl, bnd_some, if_pos rfl, w4]
      · rw [eq0_f (by omega), bnd_some, if_neg (by decide), w3]
theorem m_again {S : St} {D : Nat → Nat → Int} (R : Rg D) (M : RM_ S D) {c : Nat} {z a : Int} (hc : c < ND D) (hz : 0 ≤ z ∧ z < 100000) (ha : 0 ≤ a ∧ a < 2) : ∃ T, m_X7_againOf (iI c) (iI z) (iI a) S = some (iI (agV D c z a), T) ∧ Vw T D := by
  have hN := ND_le (D := D)
  have hp := pw12 hN
  have r3 : 0 ≤ D 3 c ∧ D 3 c ≤ 20 := R 3 c
  obtain ⟨T, t1, V, Y⟩ := m_now R M
  have e3 : gI T 3 c = iI (D 3 c) := V.1.1 3 c (show c < 12 by omega)
  unfold m_X7_againOf agV
  rw [t1, bnd_some, chk_t (by omega), ix_n (by omega), e3]
  by_cases q1 : D 3 c = 0
  · rw [eq0_t q1, if_pos (Or.inl q1)]
    exact ⟨T, rfl, V⟩
  · rw [eq0_f (by omega)]
    rcases fp_c D with q | ⟨j, j1, j2⟩
    · rw [eqm_t q, if_pos (Or.inr q)]
      exact ⟨T, rfl, V⟩
    · have F4 : Fr [3] T (sI T 3 c (iI 0)) := Fr.rf.set (by decide)
      have V4 : Vw (sI T 3 c (iI 0)) (upD D 3 c 0) := ⟨V.1.up c 0 (by decide), V.2.fr F4 (by decide)⟩
      obtain ⟨U, u1, u2, u3⟩ := m_lays (D := upD D 3 c 0) (R.up (by decide)) V4
      have VU : Vw U (upD D 3 c 0) := V4.fr u2 (by decide) (by decide)
      have V7 : Vw (sI U 3 c (iI (D 3 c))) D := by
        refine ⟨?_, VU.2.fr (K := [3]) (Fr.rf.set (by decide)) (by decide)⟩
        have := VU.1.up (k := 3) c (D 3 c) (by decide)
        rw [upD_back] at this
        exact this
      have ef : (fpD D).toNat = 2 * j + 1 := by omega
      have ea : agD D c z = agP (wD D) (ND D) (yD (upD D 3 c 0)) z (2 * j + 1) := by unfold agD; rw [ef]
      have Y7 : Yv (sI U 3 c (iI (D 3 c))) (yD (upD D 3 c 0)) (ND D) := ⟨V7.cells, fun d hd => by rw [gI_sI_n (by decide)]; exact u3 d hd⟩
      refine ⟨sI U 3 c (iI (D 3 c)), ?_, V7⟩
      rw [eqm_f (by omega), chk_t (by omega), nm_eq, chk_t (by omega), nm_eq, iI_0, u1, bndV_some, chk_t (by omega), nm_eq, j2, m_agl (f := 2 * j + 1) V7.hm Y7 (fun h => by have := wD_4 R h; omega) hN (yE_bd R) (by omega) hz, if_neg (show ¬ (D 3 c = 0 ∨ ((2 * j + 1 : Nat) : Int) = -1) by omega), Int.toNat_natCast, ea]
      rcases bst_c (okA (wD D) (ND D) (yD (upD D 3 c 0)) z) (mvA (2 * j + 1)) ((2 ^ ND D - 1) / 2) with g | ⟨k, k1, k2⟩
      · have g' : agP (wD D) (ND D) (yD (upD D 3 c 0)) z (2 * j + 1) = -1 := g
        rw [g', eqm_t rfl, if_pos rfl]
        by_cases e : a = 0
        · rw [if_pos e]
        · rw [if_neg e]
      · have g' : agP (wD D) (ND D) (yD (upD D 3 c 0)) z (2 * j + 1) = ((2 * k + 1 : Nat) : Int) := k2
        have hx : (2 * k + 1) ^^^ (2 * j + 1) < 2 ^ ND D := Nat.xor_lt_two_pow (by omega) (by omega)
        rw [g', eqm_f (by omega), if_neg (show ¬ ((2 * k + 1 : Nat) : Int) = -1 by omega), Int.toNat_natCast]
        rcases (show a = 0 ∨ a = 1 by omega) with rfl | rfl
        · rw [l1, eq_f (by omega), iI_n, iI_n, nx_xor, m_ones (by omega), bnd_some, if_pos rfl]
          unfold mvA
          rw [iI_n]
        · rw [l1, eq_t rfl, if_neg (by decide)]
theorem ag_again : Ag_again Rel := by
  rintro SX SM ⟨D, R, X, M⟩ x1 x2 x3
  obtain ⟨b, rfl, b1, b2⟩ := iI_of x1
  obtain ⟨z, rfl, z1, z2⟩ := iI_of x2
  obtain ⟨a, rfl, a1, a2⟩ := iI_of x3
  have hN := ND_le (D := D)
  obtain ⟨T, t1, V⟩ := m_isCell R M (a := b) (by omega)
  unfold m_X7_again
  rw [t1, bnd_some, ite01]
  by_cases q1 : 0 ≤ b ∧ b < ND D
  · rw [if_pos q1, m_inN (n := 100000) l99999 (by omega), bnd_some, ite01]
    by_cases q2 : 0 ≤ z ∧ z < 100000
    · rw [if_pos q2, m_inN (n := 2) l1 (by omega), bnd_some, ite01]
      by_cases q3 : 0 ≤ a ∧ a < 2
      · obtain ⟨c, rfl⟩ : ∃ c : Nat, b = c := ⟨b.toNat, by omega⟩
        obtain ⟨T1, f1, f2⟩ := x_again R X (c := c) (by omega) q2 q3
        obtain ⟨T2, g1, g2⟩ := m_again R V.1 (c := c) (by omega) q2 q3
        rw [if_pos q3, f1, g1, bnd_some]
        exact ⟨_, _, _, rfl, rfl, D, R, f2, g2.1⟩
      · unfold m_X6_again
        rw [x_isCell X (by omega), bnd_some, ite01, if_pos q1, l100000, x_below (by omega), bnd_some, ite01, if_pos q2, l2, x_below (by omega), bnd_some, ite01, if_neg q3, if_neg q3]
        exact ⟨_, _, _, rfl, rfl, D, R, X, V.1⟩
    · unfold m_X6_again
      rw [x_isCell X (by omega), bnd_some, ite01, if_pos q1, l100000, x_below (by omega), bnd_some, ite01, if_neg q2, if_neg q2]
      exact ⟨_, _, _, rfl, rfl, D, R, X, V.1⟩
  · unfold m_X6_again
    rw [x_isCell X (by omega), bnd_some, ite01, if_neg q1, if_neg q1]
    exact ⟨_, _, _, rfl, rfl, D, R, X, V.1⟩
