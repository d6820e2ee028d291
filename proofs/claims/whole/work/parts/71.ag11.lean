/-! set -/
theorem ls_step {S : St} {D : Nat → Nat → Int} (R : Rg D) {c code k n : Nat} (Q : QX S D (c + 1)) (hc : c < ND D) (hd : code < 125) (hk : k < 3) {kk : St → Option (Int32 × St)} : it1 (b_X3_leastSort_30 (iI c) (iI code) (iI (yD D c)) (iI (VD D c code)) kk) (n + 1) (iI k) S = if htD D c code k = true then some (iI k, S) else it1 (b_X3_leastSort_30 (iI c) (iI code) (iI (yD D c)) (iI (VD D c code)) kk) n (iI ((k + 1 : Nat) : Int)) S := by
  have hy := yD_bd R (show 0 < ND D by omega) c
  have r9 : 0 ≤ D 9 k ∧ D 9 k ≤ 99 := R 9 k
  have b1 := VD_bd R (c + 1) (code + fiv k)
  have b2 := VD_bd R c code
  rw [it1_s]
  unfold b_X3_leastSort_30
  rw [l3, lt_t (by omega), x_may R Q.1 hd hk hy, bnd_some, ite01]
  by_cases q : may (D 8) (yD D c) code k = true
  · rw [if_pos q, x_pay Q hc (may_lt hd q hk) hk, bnd_some, if_eq (by omega)]
    by_cases q2 : D 9 k + VD D (c + 1) (code + fiv k) = VD D c code
    · rw [if_pos q2, if_pos (ht_iff.mpr ⟨q, q2⟩)]
    · rw [if_neg q2, if_neg (fun g => q2 (ht_iff.mp g).2), l1, iI_add]; rfl
  · rw [if_neg q, if_neg (fun g => q (ht_iff.mp g).1), l1, iI_add]; rfl
theorem QX.dn {S : St} {D : Nat → Nat → Int} {r r2 : Nat} (Q : QX S D r) (h : r ≤ r2) : QX S D r2 := ⟨Q.1, fun q h1 h2 code h3 => Q.2 q (by omega) h2 code h3⟩
theorem x_least {S : St} {D : Nat → Nat → Int} (R : Rg D) {c code : Nat} (Q : QX S D 0) (hc : c < ND D) (hd : code < 125) : m_X3_leastSort (iI c) (iI code) (iI (yD D c)) S = some (iI (chD D c code), S) := by
  have hN := ND_le (D := D)
  have b1 := VD_bd R (c + 1) code
  have b2 := VD_bd R c code
  have Q1 : QX S D (c + 1) := Q.dn (by omega)
  unfold m_X3_leastSort
  rw [l125, iI_mul, iI_add, show ((c : Int) * 125 + (code : Int)) = ((c * 125 + code : Nat) : Int) by omega, chk_t (by omega), ix_n (by omega), Q.2 c (by omega) (by omega) code hd, nm_eq, x_pay0 Q1 hc hd, bnd_some, if_eq (by omega), ch_eq]
  by_cases h : VD D (c + 1) code = VD D c code
  · rw [if_pos h, if_pos h]; rfl
  · rw [if_neg h, if_neg h, show (5000 : Nat) = 4999 + 1 from rfl, show (0 : Int32) = iI ((0 : Nat) : Int) from rfl, ls_step R Q1 hc hd (by omega)]
    by_cases h0 : htD D c code 0 = true
    · rw [if_pos h0, if_pos h0]; rfl
    · rw [if_neg h0, if_neg h0, show (4999 : Nat) = 4998 + 1 from rfl, ls_step R Q1 hc hd (by omega)]
      by_cases h1 : htD D c code 1 = true
      · rw [if_pos h1, if_pos h1]; rfl
      · rw [if_neg h1, if_neg h1, show (4998 : Nat) = 4997 + 1 from rfl, ls_step R Q1 hc hd (by omega), if_pos (ht_2 hc h h0 h1)]; rfl
theorem ch_bd {D : Nat → Nat → Int} {c code : Nat} : -1 ≤ chD D c code ∧ chD D c code ≤ 2 := by
  rw [ch_eq]
  split
  · omega
  · split
    · omega
    · split <;> omega
theorem x_wgt {S : St} {s : Int} (h : -1 ≤ s ∧ s ≤ 2) : m_X3_weightOf (iI s) S = some (iI (wgt s : Nat), S) := by
  rcases (show s = -1 ∨ s = 0 ∨ s = 1 ∨ s = 2 by omega) with rfl | rfl | rfl | rfl <;> rfl
theorem x_choose {S : St} {D : Nat → Nat → Int} (R : Rg D) (Q : QX S D 0) {kk : St → Option St} : ∃ T, it2 (b_X3_plant_14_83 (iI ((ND D : Nat) : Int)) kk) 5000 (0 : Int32) (0 : Int32) S = kk T ∧ Fr [19] S T ∧ ∀ c, c < ND D → gI T 19 c = iI (soD D c) := by
  have hN := ND_le (D := D)
  refine it2_inv (fun i x z T => x = iI (cdD D i : Nat) ∧ z = iI (i : Int) ∧ Fr [19] S T ∧ ∀ c, c < i → gI T 19 c = iI (soD D c)) (ND D) (fun q => ∃ T, q = kk T ∧ Fr [19] S T ∧ ∀ c, c < ND D → gI T 19 c = iI (soD D c)) ?_ ?_ 5000 0 _ _ S (by omega) (by omega) ⟨rfl, rfl, Fr.rf, fun _ h => absurd h (Nat.not_lt_zero _)⟩
  · rintro i x z T hi ⟨rfl, rfl, A1, A2⟩ rec
    have QT : QX T D 0 := ⟨Q.1.fr A1 (by decide), fun q h1 h2 code h3 => by rw [A1.1 _ _ (by decide)]; exact Q.2 q h1 h2 code h3⟩
    refine ⟨iI (cdD D (i + 1) : Nat), iI ((i + 1 : Nat) : Int), sI T 19 i (iI (soD D i)), ⟨rfl, rfl, A1.set (by decide), fun c hc => ?_⟩, ?_⟩
    · rw [gI_sI_k]
      by_cases e : c = i
      · rw [if_pos e, e]
      · rw [if_neg e]; exact A2 c (by omega)
    · unfold b_X3_plant_14_83
      rw [lt_t (by omega), chk_t (by omega), ix_n (by omega), QT.1.2.2 i hi, x_least R QT hi (cd_lt i (by omega)), bnd_some, chk_t (by omega), nm_eq, chk_t (by omega), gI_sI_k, if_pos rfl, x_wgt ch_bd, bnd_some, iI_add, nm_eq, l1, iI_add]
      rfl
  · rintro x z T ⟨rfl, rfl, A1, A2⟩ rec
    unfold b_X3_plant_14_83
    rw [lt_f (by omega)]
    exact ⟨T, rfl, A1, A2⟩
theorem x_plant {S : St} {D : Nat → Nat → Int} (R : Rg D) (P : PX S D) : ∃ T, m_X3_plant_14 (iI ((ND D : Nat) : Int)) S = some T ∧ Fr [19, 20] S T ∧ gI T 20 0 = iI (moD D) ∧ ∀ c, c < ND D → gI T 19 c = iI (soD D c) := by
  unfold m_X3_plant_14
  obtain ⟨T, t1, t2, t3⟩ := x_zero P (kk := fun S2 => nm (iI ((ND D : Nat) : Int) - (1 : Int32)) fun y3 => it1 (b_X3_plant_14_30 (iI ((ND D : Nat) : Int)) (fun S8 => it2 (b_X3_plant_14_83 (iI ((ND D : Nat) : Int)) (fun S15 => some S15)) 5000 (0 : Int32) (0 : Int32) S8)) 5000 y3 S2)
  obtain ⟨U, u1, u2, u3⟩ := x_rows R (x2 := iI ((ND D : Nat) : Int)) t3 (kk := fun S8 => it2 (b_X3_plant_14_83 (iI ((ND D : Nat) : Int)) (fun S15 => some S15)) 5000 (0 : Int32) (0 : Int32) S8)
  obtain ⟨W, w1, w2, w3⟩ := x_choose R u3 (kk := fun S15 => some S15)
  refine ⟨W, ?_, ((t2.mono (by decide)).tr (u2.mono (by decide))).tr (w2.mono (by decide)), ?_, w3⟩
  · rw [t1, nm_eq, l1, iI_sub, u1, w1]
  · rw [w2.1 _ _ (by decide)]
    exact u3.2 0 (by omega) (by omega) 0 (by omega)
theorem RX.plants {S T : St} {D : Nat → Nat → Int} (X : RX S D) (F : Fr [19, 20, 57] S T) (h : Pl T D) : RX T D := ⟨X.1.fr F (by decide), X.2.1.fr F (by decide), ⟨X.2.2.1.1.fr F (by decide), X.2.2.1.2.fr F (by decide)⟩, X.2.2.2.1.fr F (by decide), h⟩
/-- the class, behind a call of set, knows the plants -/
theorem x_known {S : St} {D : Nat → Nat → Int} (R : Rg D) (X : RX S D) {ζ : Type} {k : St → Option ζ} : ∃ T, (if gI S 57 0 = 0 then (bndV (m_X5_years S) fun S5 => bnd (m_X1_cells S5) fun r8 S7 => bndV (m_X3_plant_14 r8 S7) fun S9 => nm (sI S9 57 0 (1 : Int32)) fun S11 => k S11) else k S) = k T ∧ RX T D ∧ gI T 20 0 = iI (moD D) ∧ ∀ c, c < ND D → gI T 19 c = iI (soD D c) := by
  have e43 : gI S 43 0 = iI ((ND D : Nat) : Int) := X.2.2.1.1.2.1
  have P : PX S D := ⟨fun k hk => X.1 8 k hk, fun k hk => X.1 9 k hk, fun c hc => X.2.2.1.2.2 c hc⟩
  rcases X.2.2.2.2 with h | ⟨h1, h2, h3⟩
  · obtain ⟨T, t1, t2, t3, t4⟩ := x_plant R P
    unfold m_X5_years m_X1_cells
    refine ⟨sI T 57 0 (1 : Int32), ?_, X.plants ((t2.mono (by decide)).set (by decide)) (Or.inr ⟨by rw [gI_sI_k, if_pos rfl]; rfl, by rw [gI_sI_n (by decide)]; exact t3, fun c hc => by rw [gI_sI_n (by decide)]; exact t4 c hc⟩), by rw [gI_sI_n (by decide)]; exact t3, fun c hc => by rw [gI_sI_n (by decide)]; exact t4 c hc⟩
    rw [h, eq0_t rfl, bndV_some, bnd_some, e43, t1, bndV_some, nm_eq]
  · refine ⟨S, ?_, X, h2, h3⟩
    rw [h1, eq0_f (by omega)]
def setV (D : Nat → Nat → Int) (a : Int) : Int := if a = -1 then moD D else soD D a.toNat
theorem x_set {S : St} {D : Nat → Nat → Int} (R : Rg D) (X : RX S D) {a : Int} (ha : a = -1 ∨ (0 ≤ a ∧ a < ND D)) : ∃ T, m_X6_set (iI a) S = some (iI (setV D a), T) ∧ RX T D := by
  have hN := ND_le (D := D)
  unfold m_X6_set setV
  rcases ha with rfl | ha
  · obtain ⟨T, t1, t2, t3, t4⟩ := x_known R X (k := fun S11 => bnd (m_X3_mostPaid S11) fun r15 S14 => some (r15, S14))
    refine ⟨T, ?_, t2⟩
    simp only [eqm_t (a := (-1 : Int)) rfl]
    rw [t1, if_pos trivial]
    unfold m_X3_mostPaid
    rw [l0, chk_t (by omega), bnd_some, ix_iI (by omega) (by omega), show (0 : Int).toNat = 0 from rfl, t3]
  · obtain ⟨T, t1, t2, t3, t4⟩ := x_known R X (k := fun S11 => bnd (m_X3_sortOn (iI a) S11) fun r15 S14 => some (r15, S14))
    refine ⟨T, ?_, t2⟩
    simp only [eqm_f (a := a) (by omega)]
    rw [x_isCell X (by omega), bnd_some, ite01, if_pos ha, t1, if_neg (by omega)]
    unfold m_X3_sortOn
    rw [chk_t (by omega), bnd_some, ix_iI (by omega) (by omega), t4 _ (by omega)]
/- the reference -/
def PM (S : St) (D : Nat → Nat → Int) : Prop := (∀ k, k < 3 → gI S 8 k = iI (D 8 k)) ∧ (∀ k, k < 3 → gI S 9 k = iI (D 9 k)) ∧ (∀ c, c < ND D → gI S 10 c = iI (yD D c)) ∧ gI S 41 0 = iI ((ND D : Nat) : Int)
theorem PM.fr {S T : St} {D : Nat → Nat → Int} {K : List Nat} (P : PM S D) (F : Fr K S T) (h : ∀ a ∈ [8, 9, 10, 41], a ∉ K) : PM T D := ⟨fun k hk => by rw [F.1 _ _ (h 8 (by decide))]; exact P.1 k hk, fun k hk => by rw [F.1 _ _ (h 9 (by decide))]; exact P.2.1 k hk, fun k hk => by rw [F.1 _ _ (h 10 (by decide))]; exact P.2.2.1 k hk, by rw [F.1 _ _ (h 41 (by decide))]; exact P.2.2.2⟩
def QM (S : St) (D : Nat → Nat → Int) (r : Nat) : Prop := PM S D ∧ ∀ q, r ≤ q → q ≤ ND D → ∀ code, code < 125 → gI S 12 (q * 125 + code) = iI (VD D q code)
theorem QM.dn {S : St} {D : Nat → Nat → Int} {r r2 : Nat} (Q : QM S D r) (h : r ≤ r2) : QM S D r2 := ⟨Q.1, fun q h1 h2 code h3 => Q.2 q (by omega) h2 code h3⟩
theorem m_lays {S : St} {D : Nat → Nat → Int} (R : Rg D) (V : Vw S D) : ∃ T, m_X7_laysYears S = some T ∧ Fr [10] S T ∧ (∀ c, c < ND D → gI T 10 c = iI (yD D c)) := by
  have hN := ND_le (D := D)
  unfold m_X7_laysYears
  refine it1_inv (fun i x T => x = iI (i : Int) ∧ Fr [10] S T ∧ ∀ c, c < i → gI T 10 c = iI (yD D c)) (ND D) (fun q => ∃ T, q = some T ∧ Fr [10] S T ∧ (∀ c, c < ND D → gI T 10 c = iI (yD D c))) ?_ ?_ 5000 0 _ S (by omega) (by omega) ⟨rfl, Fr.rf, fun _ h => absurd h (Nat.not_lt_zero _)⟩
  · rintro i x T hi ⟨rfl, A1, A2⟩ rec
    have VT : Vw T D := V.fr A1 (by decide) (by decide)
    have ey : m_X7_yearOf (iI i) T = some (iI (yD D i), T) := m_year (gr_D R (by omega)) (gvv VT.1.1 VT.2) hi
    refine ⟨iI ((i + 1 : Nat) : Int), sI T 10 i (iI (yD D i)), ⟨rfl, A1.set (by decide), fun c hc => ?_⟩, ?_⟩
    · rw [gI_sI_k]
      by_cases e : c = i
      · rw [if_pos e, e]
      · rw [if_neg e]; exact A2 c (by omega)
    · unfold b_X7_laysYears_2
      rw [VT.cells, lt_t (by omega), ey, bnd_some, chk_t (by omega), ix_n (by omega), nm_eq, l1, iI_add]
      rfl
  · rintro x T ⟨rfl, A1, A2⟩ rec
    have VT : Vw T D := V.fr A1 (by decide) (by decide)
    unfold b_X7_laysYears_2
    rw [VT.cells, lt_f (by omega)]
    exact ⟨T, rfl, A1, A2⟩
theorem m_fives {S : St} {k : Nat} (hk : k < 3) : m_X7_fives (iI k) S = some (nI (fiv k), S) := by
  rcases (show k = 0 ∨ k = 1 ∨ k = 2 by omega) with rfl | rfl | rfl <;> rfl
theorem sb_lt {v k : Nat} (hv : v < 125) (hk : k < 3) {α : Type} {x y : α} : (if (iI (v : Int) / nI (fiv k)) - (iI (v : Int) / nI (fiv k)) / (5 : Int32) * (5 : Int32) < (4 : Int32) then x else y) = if v / fiv k % 5 < 4 then x else y := by
  rw [iI_n, sb_c v hv k hk, ← iI_n, l4, if_lt (by omega)]
  by_cases q : v / fiv k % 5 < 4
  · rw [if_pos q, if_pos (by omega)]
  · rw [if_neg q, if_neg (by omega)]
theorem m_in3 {S : St} {D : Nat → Nat → Int} (R : Rg D) {c code : Nat} {x1 : Int32} (Q : QM S D (c + 1)) (hc : c < ND D) (hd : code < 125) (h0 : gI S 12 (c * 125 + code) = iI (VD D (c + 1) code)) {kk : St → Option (Int32 × St)} : ∃ T, it1 (b_X7_setOf_88 x1 (iI c) (iI code) kk) 5000 (0 : Int32) S = kk T ∧ Fr [12] S T ∧ gI T 12 (c * 125 + code) = iI (VD D c code) ∧ ∀ j, j ≠ c * 125 + code → gI T 12 j = gI S 12 j := by
  have hN := ND_le (D := D)
  have hy := yD_bd R (show 0 < ND D by omega) c
  rw [VD_s hc]
  refine it1_inv (fun i x T => x = iI (i : Int) ∧ Fr [12] S T ∧ gI T 12 (c * 125 + code) = iI (Vs (D 8) (D 9) (yD D c) (VD D (c + 1)) code i) ∧ ∀ j, j ≠ c * 125 + code → gI T 12 j = gI S 12 j) 3 (fun q => ∃ T, q = kk T ∧ Fr [12] S T ∧ gI T 12 (c * 125 + code) = iI (Vs (D 8) (D 9) (yD D c) (VD D (c + 1)) code 3) ∧ ∀ j, j ≠ c * 125 + code → gI T 12 j = gI S 12 j) ?_ ?_ 5000 0 _ S (by omega) (by omega) ⟨rfl, Fr.rf, h0, fun _ _ => rfl⟩
  · rintro i x T hi ⟨rfl, A1, A2, A3⟩ rec
    have PT : PM T D := Q.1.fr A1 (by decide)
    have b1 := Vs_bd (nd := D 8) (y := yD D c) (code := code) (fun k => R 9 k) (VD_bd R (c + 1)) i
    have r8 : 0 ≤ D 8 i ∧ D 8 i ≤ 9999 := R 8 i
    have r9 : 0 ≤ D 9 i ∧ D 9 i ≤ 99 := R 9 i
    have b2 := VD_bd R (c + 1) (code + fiv i)
    unfold b_X7_setOf_88
    rw [l3, lt_t (by omega), chk_t (by omega), chk_t (by omega), ix_n (c := c) (by omega), ix_n (c := i) (by omega), PT.2.2.1 c hc, PT.1 i hi, if_lt (by omega)]
    by_cases q : yD D c < D 8 i
    · have nm_ : ¬ may (D 8) (yD D c) code i = true := by unfold may; simp; omega
      refine ⟨iI ((i + 1 : Nat) : Int), T, ⟨rfl, A1, by rw [Vs, if_neg nm_]; exact A2, A3⟩, ?_⟩
      rw [if_pos q, l1, iI_add]; rfl
    · rw [if_neg q, m_fives hi, bnd_some, dchk_t (fiv_0 i hi), dchk_t (by decide), sb_lt hd hi]
      by_cases q2 : code / fiv i % 5 < 4
      · have my : may (D 8) (yD D c) code i = true := by unfold may; simp; omega
        have hl := may_lt hd my hi
        have eV : gI T 12 ((c + 1) * 125 + (code + fiv i)) = iI (VD D (c + 1) (code + fiv i)) := by
          rw [A3 _ (by omega)]
          exact Q.2 (c + 1) (by omega) (by omega) _ hl
        rw [if_pos q2, chk_t (by omega), m_fives hi, bnd_some, ← iI_n, l125, show iI (c : Int) + (1 : Int32) = iI ((c : Int) + 1) from iI_add c 1, iI_mul, iI_add, iI_add, show ((125 : Int) * ((c : Int) + 1) + (code : Int) + (fiv i : Nat)) = (((c + 1) * 125 + (code + fiv i) : Nat) : Int) by omega, chk_t (by omega), ix_n (by omega), PT.2.1 i hi, eV, iI_add, nm_eq, iI_mul, iI_add, show ((125 : Int) * (c : Int) + (code : Int)) = ((c * 125 + code : Nat) : Int) by omega, chk_t (by omega), ix_n (by omega), A2, if_lt (by omega)]
        by_cases q3 : Vs (D 8) (D 9) (yD D c) (VD D (c + 1)) code i < D 9 i + VD D (c + 1) (code + fiv i)
        · refine ⟨iI ((i + 1 : Nat) : Int), sI T 12 (c * 125 + code) (iI (D 9 i + VD D (c + 1) (code + fiv i))), ⟨rfl, A1.set (by decide), ?_, fun j hj => by rw [gI_sI_k, if_neg hj]; exact A3 j hj⟩, ?_⟩
          · rw [gI_sI_k, if_pos rfl, Vs, if_pos my]
            unfold mxI
            rw [if_pos q3]
          · rw [if_pos q3, chk_t (by omega), nm_eq, l1, iI_add]; rfl
        · refine ⟨iI ((i + 1 : Nat) : Int), sI T 12 (c * 125 + code) (iI (Vs (D 8) (D 9) (yD D c) (VD D (c + 1)) code i)), ⟨rfl, A1.set (by decide), ?_, fun j hj => by rw [gI_sI_k, if_neg hj]; exact A3 j hj⟩, ?_⟩
          · rw [gI_sI_k, if_pos rfl, Vs, if_pos my]
            unfold mxI
            rw [if_neg q3]
          · rw [if_neg q3, chk_t (by omega), chk_t (by omega), nm_eq, l1, iI_add]; rfl
      · have nm_ : ¬ may (D 8) (yD D c) code i = true := by unfold may; simp; omega
        refine ⟨iI ((i + 1 : Nat) : Int), T, ⟨rfl, A1, by rw [Vs, if_neg nm_]; exact A2, A3⟩, ?_⟩
        rw [if_neg q2, l1, iI_add]; rfl
  · rintro x T ⟨rfl, A1, A2, A3⟩ rec
    unfold b_X7_setOf_88
    rw [l3, lt_f (by omega)]
    exact ⟨T, rfl, A1, A2, A3⟩
theorem m_row {S : St} {D : Nat → Nat → Int} (R : Rg D) {c : Nat} {x1 : Int32} (Q : QM S D (c + 1)) (hc : c < ND D) {kk : St → Option (Int32 × St)} : ∃ T, it1 (b_X7_setOf_52 x1 (iI c) kk) 5000 (0 : Int32) S = kk T ∧ Fr [12] S T ∧ QM T D c := by
  have hN := ND_le (D := D)
  refine it1_inv (fun i x T => x = iI (i : Int) ∧ Fr [12] S T ∧ QM T D (c + 1) ∧ ∀ code, code < i → gI T 12 (c * 125 + code) = iI (VD D c code)) 125 (fun q => ∃ T, q = kk T ∧ Fr [12] S T ∧ QM T D c) ?_ ?_ 5000 0 _ S (by omega) (by omega) ⟨rfl, Fr.rf, Q, fun _ h => absurd h (Nat.not_lt_zero _)⟩
  · rintro i x T hi ⟨rfl, A1, A2, A3⟩ rec
    have F8 : Fr [12] T (sI T 12 (c * 125 + i) (iI (VD D (c + 1) i))) := Fr.rf.set (by decide)
    have Q8 : QM (sI T 12 (c * 125 + i) (iI (VD D (c + 1) i))) D (c + 1) := ⟨A2.1.fr F8 (by decide), fun q h1 h2 code h3 => by rw [gI_sI_k, if_neg (by omega)]; exact A2.2 q h1 h2 code h3⟩
    obtain ⟨U, u1, u2, u3, u4⟩ := m_in3 R (x1 := x1) Q8 hc hi (by rw [gI_sI_k, if_pos rfl]) (kk := fun S16 => rec (iI i + 1) S16)
    refine ⟨iI ((i + 1 : Nat) : Int), U, ⟨rfl, (A1.tr F8).tr u2, ⟨Q8.1.fr u2 (by decide), fun q h1 h2 code h3 => ?_⟩, fun code hd => ?_⟩, ?_⟩
    · rw [u4 _ (by omega)]; exact Q8.2 q h1 h2 code h3
    · by_cases e : code = i
      · rw [e]; exact u3
      · rw [u4 _ (by omega), gI_sI_k, if_neg (by omega)]; exact A3 code (by omega)
    · unfold b_X7_setOf_52
      rw [l125, lt_t (by omega), show iI (c : Int) + (1 : Int32) = iI ((c : Int) + 1) from iI_add c 1, iI_mul, iI_add, show ((125 : Int) * ((c : Int) + 1) + (i : Int)) = (((c + 1) * 125 + i : Nat) : Int) by omega, chk_t (by omega), iI_mul, iI_add, show ((125 : Int) * (c : Int) + (i : Int)) = ((c * 125 + i : Nat) : Int) by omega, chk_t (by omega), ix_n (by omega), ix_n (by omega), A2.2 (c + 1) (by omega) (by omega) i hi, nm_eq, u1, l1, iI_add]
      rfl
  · rintro x T ⟨rfl, A1, A2, A3⟩ rec
    unfold b_X7_setOf_52
    rw [l125, lt_f (by omega)]
    refine ⟨T, rfl, A1, A2.1, fun q h1 h2 code h3 => ?_⟩
    by_cases e : q = c
    · rw [e]; exact A3 code h3
    · exact A2.2 q (by omega) h2 code h3
theorem m_rows_ {S : St} {D : Nat → Nat → Int} (R : Rg D) {x1 : Int32} (Q : QM S D (ND D)) {kk : St → Option (Int32 × St)} : ∃ T, it1 (b_X7_setOf_45 x1 kk) 5000 (iI ((ND D : Nat) - 1)) S = kk T ∧ Fr [12] S T ∧ QM T D 0 := by
  have hN := ND_le (D := D)
  refine it1_inv (fun i x T => x = iI ((ND D : Int) - 1 - i) ∧ Fr [12] S T ∧ QM T D (ND D - i)) (ND D) (fun q => ∃ T, q = kk T ∧ Fr [12] S T ∧ QM T D 0) ?_ ?_ 5000 0 _ S (by omega) (by omega) ⟨by rw [show ((ND D : Int) - 1 - ((0 : Nat) : Int)) = (ND D : Int) - 1 by omega], Fr.rf, Q⟩
  · rintro i x T hi ⟨rfl, A1, A2⟩ rec
    obtain ⟨c, hc⟩ : ∃ c : Nat, ND D = c + 1 + i := ⟨ND D - 1 - i, by omega⟩
    have A2' : QM T D (c + 1) := by rw [show c + 1 = ND D - i by omega]; exact A2
    obtain ⟨U, u1, u2, u3⟩ := m_row R (c := c) (x1 := x1) A2' (by omega) (kk := fun S7 => rec (iI c + (-1)) S7)
    refine ⟨iI ((ND D : Int) - 1 - ((i + 1 : Nat) : Int)), U, ⟨rfl, A1.tr u2, by rw [show ND D - (i + 1) = c by omega]; exact u3⟩, ?_⟩
    unfold b_X7_setOf_45
    rw [show ((ND D : Int) - 1 - (i : Int)) = (c : Int) by omega, lt0_f (by omega), u1, lm1, iI_add, show ((ND D : Int) - 1 - ((i + 1 : Nat) : Int)) = (c : Int) + -1 by omega]
  · rintro x T ⟨rfl, A1, A2⟩ rec
    unfold b_X7_setOf_45
    rw [lt0_t (by omega)]
    exact ⟨T, rfl, A1, by rw [Nat.sub_self] at A2; exact A2⟩
theorem m_zero {S : St} {D : Nat → Nat → Int} {x1 : Int32} (P : PM S D) {kk : St → Option (Int32 × St)} : ∃ T, it1 (b_X7_setOf_11 x1 kk) 5000 (0 : Int32) S = kk T ∧ Fr [12] S T ∧ QM T D (ND D) := by
  have hN := ND_le (D := D)
  refine it1_inv (fun i x T => x = iI (i : Int) ∧ Fr [12] S T ∧ ∀ code, code < i → gI T 12 (ND D * 125 + code) = iI 0) 125 (fun q => ∃ T, q = kk T ∧ Fr [12] S T ∧ QM T D (ND D)) ?_ ?_ 5000 0 _ S (by omega) (by omega) ⟨rfl, Fr.rf, fun _ h => absurd h (Nat.not_lt_zero _)⟩
  · rintro i x T hi ⟨rfl, A1, A3⟩ rec
    refine ⟨iI ((i + 1 : Nat) : Int), sI T 12 (ND D * 125 + i) (iI 0), ⟨rfl, A1.set (by decide), fun code hd => ?_⟩, ?_⟩
    · rw [gI_sI_k]
      by_cases e : code = i
      · rw [e, if_pos rfl]
      · rw [if_neg (by omega)]; exact A3 code (by omega)
    · unfold b_X7_setOf_11
      rw [l125, lt_t (by omega), (P.fr A1 (by decide)).2.2.2, iI_mul, iI_add, show ((125 : Int) * ((ND D : Nat) : Int) + (i : Int)) = ((ND D * 125 + i : Nat) : Int) by omega, chk_t (by omega), ix_n (by omega), nm_eq, l1, iI_add]
      rfl
  · rintro x T ⟨rfl, A1, A3⟩ rec
    unfold b_X7_setOf_11
    rw [l125, lt_f (by omega)]
    refine ⟨T, rfl, A1, P.fr A1 (by decide), fun q h1 h2 code h3 => ?_⟩
    rw [show q = ND D by omega, VD_N]
    exact A3 code h3
theorem pk_done {S : St} {x1 x3 : Int32} {c k n : Nat} {s : Int} (hc : c < 12) (hk : k ≤ 3) (h : gI S 13 c = iI s) (hs : -1 ≤ s ∧ s ≤ 2) {kk : St → Option (Int32 × St)} : it1 (b_X7_setOf_276 x1 x3 (iI c) kk) (n + 1) (iI k) S = kk S := by
  rw [it1_s]
  unfold b_X7_setOf_276
  rw [l3, if_lt (by omega), chk_t (by omega), ix_n (by omega), h, eq_f (by omega)]
  split <;> rfl
theorem pk_body {S : St} {D : Nat → Nat → Int} (R : Rg D) {x1 : Int32} {c code k : Nat} (Q : QM S D 0) (hc : c < ND D) (hd : code < 125) (hk : k < 3) (h : gI S 13 c = iI 3) {kk : St → Option (Int32 × St)} {rec : Int32 → St → Option (Int32 × St)} : b_X7_setOf_276 x1 (iI code) (iI c) kk rec (iI k) S = if htD D c code k = true then rec (iI ((k + 1 : Nat) : Int)) (sI S 13 c (iI k)) else rec (iI ((k + 1 : Nat) : Int)) S := by
  have hN := ND_le (D := D)
  have hy := yD_bd R (show 0 < ND D by omega) c
  have r8 : 0 ≤ D 8 k ∧ D 8 k ≤ 9999 := R 8 k
  have r9 : 0 ≤ D 9 k ∧ D 9 k ≤ 99 := R 9 k
  have b1 := VD_bd R (c + 1) (code + fiv k)
  have b2 := VD_bd R c code
  unfold b_X7_setOf_276
  rw [l3, lt_t (by omega), chk_t (by omega), ix_n (c := c) (by omega), h, eq_t rfl, chk_t (by omega), chk_t (by omega), ix_n (c := k) (by omega), Q.1.2.2.1 c hc, Q.1.1 k hk, if_lt (by omega)]
  by_cases q : yD D c < D 8 k
  · rw [if_pos q, if_neg (fun g => by have := (ht_iff.mp g).1; unfold may at this; simp at this; omega), l1, iI_add]; rfl
  · rw [if_neg q, m_fives hk, bnd_some, dchk_t (fiv_0 k hk), dchk_t (by decide), sb_lt hd hk]
    by_cases q2 : code / fiv k % 5 < 4
    · have my : may (D 8) (yD D c) code k = true := by unfold may; simp; omega
      have hl := may_lt hd my hk
      rw [if_pos q2, chk_t (by omega), m_fives hk, bnd_some, ← iI_n, l125, show iI (c : Int) + (1 : Int32) = iI ((c : Int) + 1) from iI_add c 1, iI_mul, iI_add, iI_add, show ((125 : Int) * ((c : Int) + 1) + (code : Int) + (fiv k : Nat)) = (((c + 1) * 125 + (code + fiv k) : Nat) : Int) by omega, chk_t (by omega), ix_n (c := (c + 1) * 125 + (code + fiv k)) (by omega), Q.1.2.1 k hk, Q.2 (c + 1) (by omega) (by omega) _ hl, iI_add, iI_mul, iI_add, show ((125 : Int) * (c : Int) + (code : Int)) = ((c * 125 + code : Nat) : Int) by omega, chk_t (by omega), ix_n (c := c * 125 + code) (by omega), Q.2 c (by omega) (by omega) code hd, if_eq (by omega)]
      by_cases q3 : D 9 k + VD D (c + 1) (code + fiv k) = VD D c code
      · rw [if_pos q3, if_pos (ht_iff.mpr ⟨my, q3⟩), chk_t (by omega), nm_eq, l1, iI_add]; rfl
      · rw [if_neg q3, if_neg (fun g => q3 (ht_iff.mp g).2), l1, iI_add]; rfl
    · rw [if_neg q2, if_neg (fun g => by have := (ht_iff.mp g).1; unfold may at this; simp at this; omega), l1, iI_add]; rfl
theorem pk_step {S : St} {D : Nat → Nat → Int} (R : Rg D) {x1 : Int32} {c code k n : Nat} (Q : QM S D 0) (hc : c < ND D) (hd : code < 125) (hk : k < 3) (h : gI S 13 c = iI 3) {kk : St → Option (Int32 × St)} : it1 (b_X7_setOf_276 x1 (iI code) (iI c) kk) (n + 1) (iI k) S = if htD D c code k = true then it1 (b_X7_setOf_276 x1 (iI code) (iI c) kk) n (iI ((k + 1 : Nat) : Int)) (sI S 13 c (iI k)) else it1 (b_X7_setOf_276 x1 (iI code) (iI c) kk) n (iI ((k + 1 : Nat) : Int)) S := by
  rw [it1_s]
  exact pk_body R Q hc hd hk h
theorem m_pick {S : St} {D : Nat → Nat → Int} (R : Rg D) {x1 : Int32} {c code : Nat} (Q : QM S D 0) (hc : c < ND D) (hd : code < 125) (h : gI S 13 c = iI 3) (hn : ¬ VD D (c + 1) code = VD D c code) {kk : St → Option (Int32 × St)} : it1 (b_X7_setOf_276 x1 (iI code) (iI c) kk) 5000 (0 : Int32) S = kk (sI S 13 c (iI (chD D c code))) := by
  have hN := ND_le (D := D)
  have g13 : ∀ k : Nat, gI (sI S 13 c (iI k)) 13 c = iI k := fun k => by rw [gI_sI_k, if_pos rfl]
  rw [ch_eq, if_neg hn, show (5000 : Nat) = 4999 + 1 from rfl, show (0 : Int32) = iI ((0 : Nat) : Int) from rfl, pk_step R Q hc hd (by omega) h]
  by_cases h0 : htD D c code 0 = true
  · rw [if_pos h0, if_pos h0, show (4999 : Nat) = 4998 + 1 from rfl, pk_done (by omega) (by omega) (g13 0) (by omega)]; rfl
  · rw [if_neg h0, if_neg h0, show (4999 : Nat) = 4998 + 1 from rfl, pk_step R Q hc hd (by omega) h]
    by_cases h1 : htD D c code 1 = true
    · rw [if_pos h1, if_pos h1, show (4998 : Nat) = 4997 + 1 from rfl, pk_done (by omega) (by omega) (g13 1) (by omega)]; rfl
    · rw [if_neg h1, if_neg h1, show (4998 : Nat) = 4997 + 1 from rfl, pk_step R Q hc hd (by omega) h, if_pos (ht_2 hc hn h0 h1), show (4997 : Nat) = 4996 + 1 from rfl, pk_done (by omega) (by omega) (g13 2) (by omega)]; rfl
theorem m_choose {S : St} {D : Nat → Nat → Int} (R : Rg D) {x1 : Int32} (Q : QM S D 0) {kk : St → Option (Int32 × St)} : ∃ T, it2 (b_X7_setOf_223 x1 kk) 5000 (0 : Int32) (0 : Int32) S = kk T ∧ Fr [13] S T ∧ ∀ c, c < ND D → gI T 13 c = iI (soD D c) := by
  have hN := ND_le (D := D)
  refine it2_inv (fun i x z T => x = iI (cdD D i : Nat) ∧ z = iI (i : Int) ∧ Fr [13] S T ∧ ∀ c, c < i → gI T 13 c = iI (soD D c)) (ND D) (fun q => ∃ T, q = kk T ∧ Fr [13] S T ∧ ∀ c, c < ND D → gI T 13 c = iI (soD D c)) ?_ ?_ 5000 0 _ _ S (by omega) (by omega) ⟨rfl, rfl, Fr.rf, fun _ h => absurd h (Nat.not_lt_zero _)⟩
  · rintro i x z T hi ⟨rfl, rfl, A1, A2⟩ rec
    have QT : QM T D 0 := ⟨Q.1.fr A1 (by decide), fun q h1 h2 code h3 => by rw [A1.1 _ _ (by decide)]; exact Q.2 q h1 h2 code h3⟩
    have hd := cd_lt (D := D) i (by omega)
    have b1 := VD_bd R (i + 1) (cdD D i)
    have b2 := VD_bd R i (cdD D i)
    have fin : ∀ W, Fr [13] T W → gI W 13 i = iI (soD D i) → (∀ c, c ≠ i → gI W 13 c = gI T 13 c) → Fr [13] S W ∧ ∀ c, c < i + 1 → gI W 13 c = iI (soD D c) := fun W w1 w2 w3 => ⟨A1.tr w1, fun c hc => by
      by_cases e : c = i
      · rw [e]; exact w2
      · rw [w3 c e]; exact A2 c (by omega)⟩
    unfold b_X7_setOf_223
    rw [QT.1.2.2.2, lt_t (by omega), l125, show iI (i : Int) + (1 : Int32) = iI ((i : Int) + 1) from iI_add i 1, iI_mul, iI_add, show ((125 : Int) * ((i : Int) + 1) + (cdD D i : Nat)) = (((i + 1) * 125 + cdD D i : Nat) : Int) by omega, chk_t (by omega), ix_n (c := (i + 1) * 125 + cdD D i) (by omega), QT.2 (i + 1) (by omega) (by omega) _ hd, iI_mul, iI_add, show ((125 : Int) * (i : Int) + (cdD D i : Nat)) = ((i * 125 + cdD D i : Nat) : Int) by omega, chk_t (by omega), ix_n (c := i * 125 + cdD D i) (by omega), QT.2 i (by omega) (by omega) _ hd, if_eq (by omega)]
    have eso : soD D i = chD D i (cdD D i) := rfl
    have ecd : cdD D (i + 1) = cdD D i + wgt (chD D i (cdD D i)) := rfl
    rcases ch_cases (D := D) (c := i) (code := cdD D i) hi with ⟨g1, g2⟩ | ⟨k, k1, k2, k3, k4, -⟩
    · obtain ⟨w1, w2⟩ := fin (sI T 13 i (-1 : Int32)) (Fr.rf.set (by decide)) (by rw [gI_sI_k, if_pos rfl, eso, g1]; rfl) (fun c hc => by rw [gI_sI_k, if_neg hc])
      refine ⟨iI (cdD D (i + 1) : Nat), iI ((i + 1 : Nat) : Int), sI T 13 i (-1 : Int32), ⟨rfl, rfl, w1, w2⟩, ?_⟩
      rw [if_pos g2, chk_t (by omega), ix_n (c := i) (by omega), nm_eq, show (5000 : Nat) = 4999 + 1 from rfl, show (it1 _ (4999 + 1) (0 : Int32) (sI T 13 i (-1 : Int32)) : Option (Int32 × St)) = _ from pk_done (k := 0) (s := -1) (by omega) (by omega) (by rw [gI_sI_k, if_pos rfl]; rfl) (by omega), chk_t (by omega), gI_sI_k, if_pos rfl, if_pos rfl, nm_eq, ecd, g1, iI_0, iI_add]
      rfl
    · obtain ⟨w1, w2⟩ := fin (sI (sI T 13 i (3 : Int32)) 13 i (iI (chD D i (cdD D i)))) ((Fr.rf.set (by decide)).set (by decide)) (by rw [gI_sI_k, if_pos rfl]; rfl) (fun c hc => by rw [gI_sI_k, if_neg hc, gI_sI_k, if_neg hc])
      have F3 : Fr [13] T (sI T 13 i (3 : Int32)) := Fr.rf.set (by decide)
      have Q3 : QM (sI T 13 i (3 : Int32)) D 0 := ⟨QT.1.fr F3 (by decide), fun q h1 h2 code h3 => by rw [gI_sI_n (by decide)]; exact QT.2 q h1 h2 code h3⟩
      refine ⟨iI (cdD D (i + 1) : Nat), iI ((i + 1 : Nat) : Int), _, ⟨rfl, rfl, w1, w2⟩, ?_⟩
      rw [if_neg k4, chk_t (by omega), ix_n (c := i) (by omega), nm_eq, m_pick R Q3 hi hd (by rw [gI_sI_k, if_pos rfl]; rfl) k4, chk_t (by omega), gI_sI_k, if_pos rfl, k2, eqm_f (by omega), chk_t (by omega), m_fives k1, bnd_some, ← iI_n, nm_eq, ecd, k2, iI_add, show wgt ((k : Nat) : Int) = fiv k by unfold wgt; rw [if_neg (by omega)]; rfl]
      rfl
  · rintro x z T ⟨rfl, rfl, A1, A2⟩ rec
    unfold b_X7_setOf_223
    rw [(Q.1.fr A1 (by decide)).2.2.2, lt_f (by omega)]
    exact ⟨T, rfl, A1, A2⟩
theorem m_set {S : St} {D : Nat → Nat → Int} (R : Rg D) (M : RM_ S D) {a : Int} (ha : a = -1 ∨ (0 ≤ a ∧ a < ND D)) : ∃ T, m_X7_setOf (iI a) S = some (iI (setV D a), T) ∧ Vw T D := by
  have hN := ND_le (D := D)
  obtain ⟨T, t1, t2, V⟩ := m_flt R M
  obtain ⟨U, u1, u2, u3⟩ := m_lays R V
  have VU : Vw U D := V.fr u2 (by decide) (by decide)
  have P : PM U D := ⟨fun k hk => VU.1.1 8 k hk, fun k hk => VU.1.1 9 k hk, u3, VU.cells⟩
  unfold m_X7_setOf
  rw [t1, bnd_some, u1, bndV_some]
  obtain ⟨A, a1, a2, a3⟩ := m_zero (x1 := iI a) P (kk := fun S6 => nm ((gI S6 41 0) - (1 : Int32)) fun y7 => it1 (b_X7_setOf_45 (iI a) (fun S18 => it2 (b_X7_setOf_223 (iI a) (fun S36 => if iI a = (-1 : Int32) then (chk (0 : Int32) 1625 <| some ((gI S36 12 (ix (0 : Int32))), S36)) else chk (iI a) 12 <| some ((gI S36 13 (ix (iI a))), S36))) 5000 (0 : Int32) (0 : Int32) S18)) 5000 y7 S6)
  obtain ⟨B, b1, b2, b3⟩ := m_rows_ R (x1 := iI a) a3 (kk := fun S18 => it2 (b_X7_setOf_223 (iI a) (fun S36 => if iI a = (-1 : Int32) then (chk (0 : Int32) 1625 <| some ((gI S36 12 (ix (0 : Int32))), S36)) else chk (iI a) 12 <| some ((gI S36 13 (ix (iI a))), S36))) 5000 (0 : Int32) (0 : Int32) S18)
  obtain ⟨C, c1, c2, c3⟩ := m_choose R (x1 := iI a) b3 (kk := fun S36 => if iI a = (-1 : Int32) then (chk (0 : Int32) 1625 <| some ((gI S36 12 (ix (0 : Int32))), S36)) else chk (iI a) 12 <| some ((gI S36 13 (ix (iI a))), S36))
  refine ⟨C, ?_, ((VU.fr a2 (by decide) (by decide)).fr b2 (by decide) (by decide)).fr c2 (by decide) (by decide)⟩
  rw [a1, a3.1.2.2.2, show iI ((ND D : Nat) : Int) - (1 : Int32) = iI (((ND D : Nat) : Int) - 1) from iI_sub _ 1, nm_eq, b1, c1]
  unfold setV
  rcases ha with rfl | ha
  · rw [eqm_t rfl, if_pos rfl, l0, chk_t (by omega), ix_iI (by omega) (by omega), c2.1 _ _ (by decide)]
    exact congrArg (fun z => some (z, C)) (b3.2 0 (by omega) (by omega) 0 (by omega))
  · rw [eqm_f (by omega), if_neg (by omega), chk_t (by omega), ix_iI (by omega) (by omega), c3 _ (by omega)]
theorem ag_set : Ag_set Rel := by
  rintro SX SM ⟨D, R, X, M⟩ x1
  obtain ⟨a, rfl, a1, a2⟩ := iI_of x1
  have hN := ND_le (D := D)
  unfold m_X7_set
  by_cases q0 : a = -1
  · obtain ⟨T, t1, t2⟩ := x_set R X (a := a) (Or.inl q0)
    obtain ⟨U, u1, u2⟩ := m_set R M (a := a) (Or.inl q0)
    rw [eqm_t q0, t1, u1, bnd_some]
    exact ⟨_, _, _, rfl, rfl, D, R, t2, u2.1⟩
  · obtain ⟨V, v1, v2⟩ := m_isCell R M (a := a) (by omega)
    rw [eqm_f (by omega), v1, bnd_some, ite01]
    by_cases q1 : 0 ≤ a ∧ a < ND D
    · obtain ⟨T, t1, t2⟩ := x_set R X (a := a) (Or.inr q1)
      obtain ⟨U, u1, u2⟩ := m_set R v2.1 (a := a) (Or.inr q1)
      rw [if_pos q1, t1, u1, bnd_some]
      exact ⟨_, _, _, rfl, rfl, D, R, t2, u2.1⟩
    · unfold m_X6_set
      rw [if_neg q1, eqm_f (by omega), x_isCell X (by omega), bnd_some, ite01, if_neg q1]
      exact ⟨_, _, _, rfl, rfl, D, R, X, v2.1⟩
