/-! changes -/
def rr (D : Nat → Nat → Int) (a b : Nat) : Bool := decide (D 4 a ≠ D 4 b) && rat D a b
def pB (D : Nat → Nat → Int) (a b : Nat) : Bool := decide (a < b) && (rr D a b && rr D b a)
def rB (D : Nat → Nat → Int) (a b c : Nat) : Bool := decide (a < b) && (decide (a < c) && (rr D a b && (rr D b c && rr D c a)))
def b2i (b : Bool) : Int := if b then 1 else 0
def pairD (D : Nat → Nat → Int) : Int := sm (fun a => sm (fun b => b2i (pB D a b)) (ND D)) (ND D)
def ringD (D : Nat → Nat → Int) : Int := sm (fun a => sm (fun b => sm (fun c => b2i (rB D a b c)) (ND D)) (ND D)) (ND D)
theorem swp_rr (D : Nat → Nat → Int) (a b : Nat) : swp D a b = (rr D a b && rr D b a) := by
  unfold swp rr
  by_cases q : D 4 a = D 4 b
  · simp [q]
  · have q' : ¬ D 4 b = D 4 a := fun e => q e.symm
    simp [q, q']
theorem b2i_t {b : Bool} (h : b = true) : b2i b = 1 := if_pos h
theorem b2i_f {b : Bool} (h : ¬ b = true) : b2i b = 0 := if_neg h
theorem x_ring {S : St} {D : Nat → Nat → Int} (R : Rg D) (X : RX S D) {a b c : Nat} (ha : a < ND D) (hb : b < ND D) (hc : c < ND D) : m_X6_isRing (iI a) (iI b) (iI c) S = some (if (rr D a b && (rr D b c && rr D c a)) = true then 1 else 0, S) := by
  have hN := ND_le (D := D)
  have e1 : gI S 25 a = iI (D 4 a) := X.1 4 a (show a < 12 by omega)
  have e2 : gI S 25 b = iI (D 4 b) := X.1 4 b (show b < 12 by omega)
  have e3 : gI S 25 c = iI (D 4 c) := X.1 4 c (show c < 12 by omega)
  have r1 : 0 ≤ D 4 a ∧ D 4 a ≤ 3 := R 4 a
  have r2 : 0 ≤ D 4 b ∧ D 4 b ≤ 3 := R 4 b
  have r3 : 0 ≤ D 4 c ∧ D 4 c ≤ 3 := R 4 c
  unfold m_X6_isRing rr
  rw [chk_t (by omega), chk_t (by omega), ix_n (by omega), ix_n (by omega), ix_n (by omega), e1, e2, e3, if_eq (by omega)]
  by_cases q1 : D 4 a = D 4 b
  · rw [if_pos q1, if_pos rfl, if_neg (by simp [q1])]
  · rw [if_neg q1, chk_t (by omega), chk_t (by omega), if_eq (by omega)]
    by_cases q2 : D 4 b = D 4 c
    · rw [if_pos q2, if_pos rfl, if_neg (by simp [q2])]
    · rw [if_neg q2, chk_t (by omega), chk_t (by omega), if_eq (by omega)]
      by_cases q3 : D 4 c = D 4 a
      · rw [if_pos q3, if_pos rfl, if_neg (by simp [q3])]
      · rw [if_neg q3, if_neg (by decide), x_rather R X ha hb, bnd_some, ite01]
        by_cases p1 : rat D a b = true
        · rw [if_pos p1, x_rather R X hb hc, bnd_some, ite01]
          by_cases p2 : rat D b c = true
          · rw [if_pos p2, x_rather R X hc ha, bnd_some, ite01]
            by_cases p3 : rat D c a = true
            · rw [if_pos p3, if_pos (by simp [q1, q2, q3, p1, p2, p3])]
            · rw [if_neg p3, if_neg (by simp [p3])]
          · rw [if_neg p2, if_neg (by simp [p2])]
        · rw [if_neg p1, if_neg (by simp [p1])]
theorem x_pr2 {S : St} {D : Nat → Nat → Int} (R : Rg D) (X : RX S D) {a : Nat} {x : Int} (ha : a < ND D) {kk : Int32 → St → Option (Int32 × St)} : it2 (b_X6_countPairs_19 (iI a) kk) 5000 (iI x) (iI ((a + 1 : Nat) : Int)) S = kk (iI (x + sm (fun b => b2i (pB D a b)) (ND D))) S := by
  have hN := ND_le (D := D)
  have e43 : gI S 43 0 = iI ((ND D : Nat) : Int) := X.2.2.1.1.2.1
  refine it2_inv (fun i y z T => y = iI (x + sm (fun b => b2i (pB D a b)) i) ∧ z = iI (i : Int) ∧ T = S ∧ a < i) (ND D) (fun q => q = kk (iI (x + sm (fun b => b2i (pB D a b)) (ND D))) S) ?_ ?_ 5000 (a + 1) _ _ S (by omega) (by omega) ⟨?_, rfl, rfl, by omega⟩
  · rintro i y z T hi ⟨rfl, rfl, rfl, A⟩ rec
    refine ⟨_, _, T, ⟨rfl, rfl, rfl, by omega⟩, ?_⟩
    unfold b_X6_countPairs_19 m_X1_cells
    rw [bnd_some, e43, lt_t (by omega), x_swap R X ha hi, swp_rr, bnd_some, ite01, sm]
    by_cases q : (rr D a i && rr D i a) = true
    · rw [if_pos q, b2i_t (by unfold pB; rw [q]; simp; omega), l1, iI_add, iI_add, Int.add_assoc]
      rfl
    · rw [if_neg q, b2i_f (by unfold pB; simp at q ⊢; exact fun _ => q), l1, iI_add, Int.add_zero]
      rfl
  · rintro y z T ⟨rfl, rfl, rfl, A⟩ rec
    unfold b_X6_countPairs_19 m_X1_cells
    rw [bnd_some, e43, lt_f (by omega)]
  · rw [sm_0 (fun k hk => b2i_f (by unfold pB; simp; intro g; omega)), Int.add_zero]
theorem x_pairs {S : St} {D : Nat → Nat → Int} (R : Rg D) (X : RX S D) : m_X6_countPairs S = some (iI (pairD D), S) := by
  have hN := ND_le (D := D)
  have e43 : gI S 43 0 = iI ((ND D : Nat) : Int) := X.2.2.1.1.2.1
  unfold m_X6_countPairs
  refine it2_inv (fun i y z T => y = iI (sm (fun a => sm (fun b => b2i (pB D a b)) (ND D)) i) ∧ z = iI (i : Int) ∧ T = S) (ND D) (fun q => q = some (iI (pairD D), S)) ?_ ?_ 5000 0 _ _ S (by omega) (by omega) ⟨rfl, rfl, rfl⟩
  · rintro i y z T hi ⟨rfl, rfl, rfl⟩ rec
    refine ⟨_, _, T, ⟨rfl, rfl, rfl⟩, ?_⟩
    unfold b_X6_countPairs_4 m_X1_cells
    rw [bnd_some, e43, lt_t (by omega), l1, iI_add, nm_eq, show ((i : Int) + 1) = ((i + 1 : Nat) : Int) by omega, x_pr2 R X hi, sm]
  · rintro y z T ⟨rfl, rfl, rfl⟩ rec
    unfold b_X6_countPairs_4 m_X1_cells
    rw [bnd_some, e43, lt_f (by omega)]
    rfl
theorem x_rg3 {S : St} {D : Nat → Nat → Int} (R : Rg D) (X : RX S D) {a b : Nat} {x : Int} (ha : a < b) (hb : b < ND D) {kk : Int32 → St → Option (Int32 × St)} : it2 (b_X6_countRings_35 (iI a) (iI b) kk) 5000 (iI x) (iI ((a + 1 : Nat) : Int)) S = kk (iI (x + sm (fun c => b2i (rB D a b c)) (ND D))) S := by
  have hN := ND_le (D := D)
  have e43 : gI S 43 0 = iI ((ND D : Nat) : Int) := X.2.2.1.1.2.1
  refine it2_inv (fun i y z T => y = iI (x + sm (fun c => b2i (rB D a b c)) i) ∧ z = iI (i : Int) ∧ T = S ∧ a < i) (ND D) (fun q => q = kk (iI (x + sm (fun c => b2i (rB D a b c)) (ND D))) S) ?_ ?_ 5000 (a + 1) _ _ S (by omega) (by omega) ⟨?_, rfl, rfl, by omega⟩
  · rintro i y z T hi ⟨rfl, rfl, rfl, A⟩ rec
    refine ⟨_, _, T, ⟨rfl, rfl, rfl, by omega⟩, ?_⟩
    unfold b_X6_countRings_35 m_X1_cells
    rw [bnd_some, e43, lt_t (by omega), x_ring R X (by omega) hb hi, bnd_some, ite01, sm]
    by_cases q : (rr D a b && (rr D b i && rr D i a)) = true
    · rw [if_pos q, b2i_t (by unfold rB; rw [q]; simp; omega), l1, iI_add, iI_add, Int.add_assoc]
      rfl
    · rw [if_neg q, b2i_f (by unfold rB; simp at q ⊢; exact fun _ _ => q), l1, iI_add, Int.add_zero]
      rfl
  · rintro y z T ⟨rfl, rfl, rfl, A⟩ rec
    unfold b_X6_countRings_35 m_X1_cells
    rw [bnd_some, e43, lt_f (by omega)]
  · rw [sm_0 (fun k hk => b2i_f (by unfold rB; simp; intro _ g; omega)), Int.add_zero]
theorem x_rg2 {S : St} {D : Nat → Nat → Int} (R : Rg D) (X : RX S D) {a : Nat} {x : Int} (ha : a < ND D) {kk : Int32 → St → Option (Int32 × St)} : it2 (b_X6_countRings_19 (iI a) kk) 5000 (iI x) (iI ((a + 1 : Nat) : Int)) S = kk (iI (x + sm (fun b => sm (fun c => b2i (rB D a b c)) (ND D)) (ND D))) S := by
  have hN := ND_le (D := D)
  have e43 : gI S 43 0 = iI ((ND D : Nat) : Int) := X.2.2.1.1.2.1
  refine it2_inv (fun i y z T => y = iI (x + sm (fun b => sm (fun c => b2i (rB D a b c)) (ND D)) i) ∧ z = iI (i : Int) ∧ T = S ∧ a < i) (ND D) (fun q => q = kk (iI (x + sm (fun b => sm (fun c => b2i (rB D a b c)) (ND D)) (ND D))) S) ?_ ?_ 5000 (a + 1) _ _ S (by omega) (by omega) ⟨?_, rfl, rfl, by omega⟩
  · rintro i y z T hi ⟨rfl, rfl, rfl, A⟩ rec
    refine ⟨_, _, T, ⟨rfl, rfl, rfl, by omega⟩, ?_⟩
    unfold b_X6_countRings_19 m_X1_cells
    rw [bnd_some, e43, lt_t (by omega), l1, iI_add, nm_eq, show ((a : Int) + 1) = ((a + 1 : Nat) : Int) by omega, x_rg3 R X A hi, iI_add, sm, Int.add_assoc]
    rfl
  · rintro y z T ⟨rfl, rfl, rfl, A⟩ rec
    unfold b_X6_countRings_19 m_X1_cells
    rw [bnd_some, e43, lt_f (by omega)]
  · rw [sm_0 (fun k hk => sm_0 (fun j _ => b2i_f (by unfold rB; simp; intro g; omega))), Int.add_zero]
theorem x_rings {S : St} {D : Nat → Nat → Int} (R : Rg D) (X : RX S D) : m_X6_countRings S = some (iI (ringD D), S) := by
  have hN := ND_le (D := D)
  have e43 : gI S 43 0 = iI ((ND D : Nat) : Int) := X.2.2.1.1.2.1
  unfold m_X6_countRings
  refine it2_inv (fun i y z T => y = iI (sm (fun a => sm (fun b => sm (fun c => b2i (rB D a b c)) (ND D)) (ND D)) i) ∧ z = iI (i : Int) ∧ T = S) (ND D) (fun q => q = some (iI (ringD D), S)) ?_ ?_ 5000 0 _ _ S (by omega) (by omega) ⟨rfl, rfl, rfl⟩
  · rintro i y z T hi ⟨rfl, rfl, rfl⟩ rec
    refine ⟨_, _, T, ⟨rfl, rfl, rfl⟩, ?_⟩
    unfold b_X6_countRings_4 m_X1_cells
    rw [bnd_some, e43, lt_t (by omega), l1, iI_add, nm_eq, show ((i : Int) + 1) = ((i + 1 : Nat) : Int) by omega, x_rg2 R X hi, sm]
  · rintro y z T ⟨rfl, rfl, rfl⟩ rec
    unfold b_X6_countRings_4 m_X1_cells
    rw [bnd_some, e43, lt_f (by omega)]
    rfl
theorem m_isin {S : St} {p : Nat → Bool} {n b : Nat} (hn : n ≤ 12) (hb : b < n) : m_X7_isIn (nI (bs p n)) (iI b) S = some (if p b = true then 1 else 0, S) := by
  have hl := bs_lt p n
  have h2 : (2 : Nat) ^ n ≤ 2 ^ 12 := Nat.pow_le_pow_right (by omega) hn
  unfold m_X7_isIn
  rw [iI_n, shr_bit (by omega) (by omega), bs_bit p n b hb]
  by_cases q : p b = true
  · rw [if_pos q, if_pos q]; rfl
  · rw [if_neg q, if_neg q]; rfl
theorem Vw.fr {S T : St} {D : Nat → Nat → Int} {K : List Nat} (V : Vw S D) (F : Fr K S T) (h1 : ∀ a ∈ inM, a ∉ K) (h2 : ∀ a ∈ [41, 42, 43, 2], a ∉ K) : Vw T D := ⟨V.1.fr F h1, V.2.fr F h2⟩
theorem m_rt1 {S : St} {D : Nat → Nat → Int} (R : Rg D) (V : Vw S D) {a : Nat} {x1 : Int32} (ha : a < ND D) (h0 : gI S 11 a = 0) {kk : St → Option (Int32 × St)} : ∃ U, it1 (b_X7_changesOf_25 x1 (iI a) kk) 5000 (0 : Int32) S = kk U ∧ Fr [11] S U ∧ gI U 11 a = nI (bs (rr D a) (ND D)) ∧ ∀ b, b ≠ a → gI U 11 b = gI S 11 b := by
  have hN := ND_le (D := D)
  refine it1_inv (fun i z T => z = iI (i : Int) ∧ Fr [11] S T ∧ gI T 11 a = nI (bs (rr D a) i) ∧ ∀ b, b ≠ a → gI T 11 b = gI S 11 b) (ND D) (fun q => ∃ U, q = kk U ∧ Fr [11] S U ∧ gI U 11 a = nI (bs (rr D a) (ND D)) ∧ ∀ b, b ≠ a → gI U 11 b = gI S 11 b) ?_ ?_ 5000 0 _ S (by omega) (by omega) ⟨rfl, Fr.rf, h0, fun b _ => rfl⟩
  · rintro i z T hi ⟨rfl, A1, A2, A3⟩ rec
    have VT : Vw T D := V.fr A1 (by decide) (by decide)
    have e1 : gI T 4 a = iI (D 4 a) := VT.1.1 4 a (show a < 12 by omega)
    have e2 : gI T 4 i = iI (D 4 i) := VT.1.1 4 i (show i < 12 by omega)
    have r1 : 0 ≤ D 4 a ∧ D 4 a ≤ 3 := R 4 a
    have r2 : 0 ≤ D 4 i ∧ D 4 i ≤ 3 := R 4 i
    refine ⟨iI ((i + 1 : Nat) : Int), sI T 11 a (nI (bs (rr D a) (i + 1))), ⟨rfl, A1.set (by decide), by rw [gI_sI_k, if_pos rfl], fun b hb => by rw [gI_sI_k, if_neg hb]; exact A3 b hb⟩, ?_⟩
    unfold b_X7_changesOf_25
    rw [VT.cells, lt_t (by omega), chk_t (by omega), chk_t (by omega), chk_t (by omega), ix_n (by omega), ix_n (by omega), e1, e2, if_eq (by omega), A2, bs]
    by_cases q : D 4 a = D 4 i
    · rw [if_pos q, chk_t (by omega), or_0, nm_eq, l1, iI_add, if_neg (by unfold rr; simp [q]), Nat.add_zero]
      rfl
    · rw [if_neg q, m_rather R VT ha hi, bnd_some, ite01]
      by_cases q2 : rat D a i = true
      · rw [if_pos q2, chk_t (by omega), iI_n i, bs_or _ (by omega), nm_eq, ← iI_n i, l1, iI_add, if_pos (by unfold rr; simp [q, q2])]
        rfl
      · rw [if_neg q2, chk_t (by omega), or_0, nm_eq, l1, iI_add, if_neg (by unfold rr; simp [q2]), Nat.add_zero]
        rfl
  · rintro z T ⟨rfl, A1, A2, A3⟩ rec
    have VT : Vw T D := V.fr A1 (by decide) (by decide)
    unfold b_X7_changesOf_25
    rw [VT.cells, lt_f (by omega)]
    exact ⟨T, rfl, A1, A2, A3⟩
theorem m_rt {S : St} {D : Nat → Nat → Int} (R : Rg D) (V : Vw S D) {x1 : Int32} {kk : St → Option (Int32 × St)} : ∃ U, it1 (b_X7_changesOf_7 x1 kk) 5000 (0 : Int32) S = kk U ∧ Fr [11] S U ∧ ∀ a, a < ND D → gI U 11 a = nI (bs (rr D a) (ND D)) := by
  have hN := ND_le (D := D)
  refine it1_inv (fun i z T => z = iI (i : Int) ∧ Fr [11] S T ∧ ∀ a, a < i → gI T 11 a = nI (bs (rr D a) (ND D))) (ND D) (fun q => ∃ U, q = kk U ∧ Fr [11] S U ∧ ∀ a, a < ND D → gI U 11 a = nI (bs (rr D a) (ND D))) ?_ ?_ 5000 0 _ S (by omega) (by omega) ⟨rfl, Fr.rf, fun a h => absurd h (Nat.not_lt_zero _)⟩
  · rintro i z T hi ⟨rfl, A1, A2⟩ rec
    have VT : Vw T D := V.fr A1 (by decide) (by decide)
    have F2 : Fr [11] T (sI T 11 i (0 : Int32)) := Fr.rf.set (by decide)
    obtain ⟨U, u1, u2, u3, u4⟩ := m_rt1 R (VT.fr F2 (by decide) (by decide)) (a := i) (x1 := x1) hi (by rw [gI_sI_k, if_pos rfl]) (kk := fun S9 => rec (iI i + 1) S9)
    refine ⟨iI ((i + 1 : Nat) : Int), U, ⟨rfl, (A1.tr F2).tr u2, fun a h => ?_⟩, ?_⟩
    · by_cases e : a = i
      · rw [e]; exact u3
      · rw [u4 a e, gI_sI_k, if_neg e]; exact A2 a (by omega)
    · unfold b_X7_changesOf_7
      rw [VT.cells, lt_t (by omega), chk_t (by omega), nm_eq, ix_n (by omega), u1, l1, iI_add]
      rfl
  · rintro z T ⟨rfl, A1, A2⟩ rec
    have VT : Vw T D := V.fr A1 (by decide) (by decide)
    unfold b_X7_changesOf_7
    rw [VT.cells, lt_f (by omega)]
    exact ⟨T, rfl, A1, A2⟩
def Rt (S : St) (D : Nat → Nat → Int) : Prop := Vw S D ∧ ∀ a, a < ND D → gI S 11 a = nI (bs (rr D a) (ND D))
theorem m_rg3 {S : St} {D : Nat → Nat → Int} (V : Rt S D) {a b : Nat} {x : Int} {x1 x3 : Int32} (ha : a < ND D) (hb : b < ND D) {kk : Int32 → St → Option (Int32 × St)} : it2 (b_X7_changesOf_166 x1 x3 (iI a) (iI b) kk) 5000 (iI x) (0 : Int32) S = kk (iI (x + sm (fun c => b2i (rB D a b c)) (ND D))) S := by
  have hN := ND_le (D := D)
  refine it2_inv (fun i y z T => y = iI (x + sm (fun c => b2i (rB D a b c)) i) ∧ z = iI (i : Int) ∧ T = S) (ND D) (fun q => q = kk (iI (x + sm (fun c => b2i (rB D a b c)) (ND D))) S) ?_ ?_ 5000 0 _ _ S (by omega) (by omega) ⟨by rw [sm, Int.add_zero], rfl, rfl⟩
  · rintro i y z T hi ⟨rfl, rfl, rfl⟩ rec
    refine ⟨_, _, T, ⟨rfl, rfl, rfl⟩, ?_⟩
    have no : ∀ y : Int, (fun c => b2i (rB D a b c)) i = 0 → (nm (iI y + 0) fun y12 => rec y12 (iI i + 1) T) = rec (iI (y + b2i (rB D a b i))) (iI ((i + 1 : Nat) : Int)) T := fun y h => by
      rw [nm_eq, iI_0, iI_add, l1, iI_add, show b2i (rB D a b i) = 0 from h]
      rfl
    unfold b_X7_changesOf_166
    rw [V.1.cells, lt_t (by omega), if_lt (by omega), sm, ← Int.add_assoc]
    by_cases q1 : (a : Int) < b
    · rw [if_pos q1, if_lt (by omega)]
      by_cases q2 : (a : Int) < i
      · rw [if_pos q2, chk_t (by omega), ix_n (by omega), ix_n (by omega), ix_n (by omega), V.2 a ha, m_isin hN hb, bnd_some, ite01]
        by_cases p1 : rr D a b = true
        · rw [if_pos p1, chk_t (by omega), V.2 b hb, m_isin hN hi, bnd_some, ite01]
          by_cases p2 : rr D b i = true
          · rw [if_pos p2, chk_t (by omega), V.2 i hi, m_isin hN ha, bnd_some, ite01]
            by_cases p3 : rr D i a = true
            · rw [if_pos p3, if_neg (by decide), nm_eq, b2i_t (by unfold rB; simp [p1, p2, p3]; omega), l1, iI_add, iI_add]
              rfl
            · rw [if_neg p3, if_pos rfl]
              exact no _ (b2i_f (by unfold rB; simp [p3]))
          · rw [if_neg p2, if_pos rfl]
            exact no _ (b2i_f (by unfold rB; simp [p2]))
        · rw [if_neg p1, if_pos rfl]
          exact no _ (b2i_f (by unfold rB; simp [p1]))
      · rw [if_neg q2, if_pos rfl]
        exact no _ (b2i_f (by unfold rB; simp; intro _ g; omega))
    · rw [if_neg q1, if_pos rfl]
      exact no _ (b2i_f (by unfold rB; simp; intro g; omega))
  · rintro y z T ⟨rfl, rfl, rfl⟩ rec
    unfold b_X7_changesOf_166
    rw [V.1.cells, lt_f (by omega)]
theorem m_rg2 {S : St} {D : Nat → Nat → Int} (V : Rt S D) {a : Nat} {x y : Int} {x1 : Int32} (ha : a < ND D) {kk : Int32 → Int32 → St → Option (Int32 × St)} : it3 (b_X7_changesOf_109 x1 (iI a) kk) 5000 (iI x) (iI y) (0 : Int32) S = kk (iI (x + sm (fun b => b2i (pB D b a)) (ND D))) (iI (y + sm (fun b => sm (fun c => b2i (rB D a b c)) (ND D)) (ND D))) S := by
  have hN := ND_le (D := D)
  refine it3_inv (fun i p q z T => p = iI (x + sm (fun b => b2i (pB D b a)) i) ∧ q = iI (y + sm (fun b => sm (fun c => b2i (rB D a b c)) (ND D)) i) ∧ z = iI (i : Int) ∧ T = S) (ND D) (fun q => q = kk (iI (x + sm (fun b => b2i (pB D b a)) (ND D))) (iI (y + sm (fun b => sm (fun c => b2i (rB D a b c)) (ND D)) (ND D))) S) ?_ ?_ 5000 0 _ _ _ S (by omega) (by omega) ⟨by rw [sm, Int.add_zero], by rw [sm, Int.add_zero], rfl, rfl⟩
  · rintro i p q z T hi ⟨rfl, rfl, rfl, rfl⟩ rec
    refine ⟨_, _, _, T, ⟨rfl, rfl, rfl, rfl⟩, ?_⟩
    have fin : ∀ (u : Int) (y33 : Int32), y33 = iI (x + sm (fun b => b2i (pB D b a)) i + u) → u = b2i (pB D i a) → (nm y33 fun y33 => it2 (b_X7_changesOf_166 x1 y33 (iI a) (iI i) (fun x4_S34 S34 => rec y33 x4_S34 (iI i + 1) S34)) 5000 (iI (y + sm (fun b => sm (fun c => b2i (rB D a b c)) (ND D)) i)) (0 : Int32) T) = rec (iI (x + sm (fun b => b2i (pB D b a)) (i + 1))) (iI (y + sm (fun b => sm (fun c => b2i (rB D a b c)) (ND D)) (i + 1))) (iI ((i + 1 : Nat) : Int)) T := fun u y33 h1 h2 => by
      rw [nm_eq, m_rg3 V ha hi, h1, h2, l1, iI_add, sm, sm, Int.add_assoc, Int.add_assoc]
      rfl
    have i0 : ∀ z : Int, iI z + 0 = iI (z + 0) := fun z => iI_add z 0
    have i1 : ∀ z : Int, iI z + 1 = iI (z + 1) := fun z => iI_add z 1
    unfold b_X7_changesOf_109
    rw [V.1.cells, lt_t (by omega), if_lt (by omega)]
    by_cases q1 : (i : Int) < a
    · rw [if_pos q1, chk_t (by omega), ix_n (by omega), V.2 a ha, m_isin hN hi, bnd_some, ite01]
      by_cases p1 : rr D a i = true
      · rw [if_pos p1, chk_t (by omega), ix_n (by omega), V.2 i hi, m_isin hN ha, bnd_some, ite01]
        by_cases p2 : rr D i a = true
        · rw [if_pos p2]
          exact fin 1 _ (i1 _) (b2i_t (by unfold pB; simp [p1, p2]; omega)).symm
        · rw [if_neg p2]
          exact fin 0 _ (i0 _) (b2i_f (by unfold pB; simp [p2])).symm
      · rw [if_neg p1]
        exact fin 0 _ (i0 _) (b2i_f (by unfold pB; simp [p1])).symm
    · rw [if_neg q1]
      exact fin 0 _ (i0 _) (b2i_f (by unfold pB; simp; intro g; omega)).symm
  · rintro p q z T ⟨rfl, rfl, rfl, rfl⟩ rec
    unfold b_X7_changesOf_109
    rw [V.1.cells, lt_f (by omega)]
theorem sm_plus (f g : Nat → Int) : ∀ n, sm f n + sm g n = sm (fun k => f k + g k) n
  | 0 => rfl
  | n + 1 => by
    have := sm_plus f g n
    rw [sm, sm, sm]
    omega
theorem sm_swap (f : Nat → Nat → Int) (n : Nat) : ∀ m, sm (fun a => sm (fun b => f a b) n) m = sm (fun b => sm (fun a => f a b) m) n
  | 0 => (sm_0 (fun _ _ => rfl)).symm
  | m + 1 => by
    rw [sm, sm_swap f n m, sm_plus]
    rfl
theorem m_changes {S : St} {D : Nat → Nat → Int} (R : Rg D) (M : RM_ S D) {w : Int} (hw : 0 ≤ w ∧ w < 2) : ∃ T, m_X7_changesOf (iI w) S = some (if w = 0 then iI (pairD D) else iI (ringD D), T) ∧ Fr (11 :: scrM) S T ∧ Vw T D := by
  have hN := ND_le (D := D)
  obtain ⟨T, t1, t2, V⟩ := m_flt R M
  unfold m_X7_changesOf
  obtain ⟨U, u1, u2, u3⟩ := m_rt R V (x1 := iI w) (kk := fun S10 => it3 (b_X7_changesOf_97 (iI w) (fun x3_S42 x4_S42 S42 => if iI w = 0 then some (x3_S42, S42) else some (x4_S42, S42))) 5000 (0 : Int32) (0 : Int32) (0 : Int32) S10)
  have VU : Rt U D := ⟨V.fr u2 (by decide) (by decide), u3⟩
  refine ⟨U, ?_, (t2.mono (by decide)).tr (u2.mono (by decide)), VU.1⟩
  rw [t1, bnd_some, u1]
  refine it3_inv (fun i p q z T => p = iI (sm (fun a => sm (fun b => b2i (pB D b a)) (ND D)) i) ∧ q = iI (sm (fun a => sm (fun b => sm (fun c => b2i (rB D a b c)) (ND D)) (ND D)) i) ∧ z = iI (i : Int) ∧ T = U) (ND D) (fun q => q = some (if w = 0 then iI (pairD D) else iI (ringD D), U)) ?_ ?_ 5000 0 _ _ _ U (by omega) (by omega) ⟨rfl, rfl, rfl, rfl⟩
  · rintro i p q z T hi ⟨rfl, rfl, rfl, rfl⟩ rec
    refine ⟨_, _, _, T, ⟨rfl, rfl, rfl, rfl⟩, ?_⟩
    unfold b_X7_changesOf_97
    rw [VU.1.cells, lt_t (by omega), m_rg2 VU hi, l1, iI_add, sm, sm]
    rfl
  · rintro p q z T ⟨rfl, rfl, rfl, rfl⟩ rec
    unfold b_X7_changesOf_97
    rw [VU.1.cells, lt_f (by omega)]
    dsimp only
    rw [← sm_swap (fun b a => b2i (pB D b a))]
    rcases (show w = 0 ∨ w = 1 by omega) with rfl | rfl
    · rfl
    · rfl
theorem x_changes {S : St} {D : Nat → Nat → Int} (R : Rg D) (X : RX S D) {w : Int} (hw : 0 ≤ w ∧ w < 2) : m_X6_changes (iI w) S = some (if w = 0 then iI (pairD D) else iI (ringD D), S) := by
  unfold m_X6_changes
  rw [l2, x_below (by omega), bnd_some, ite01, if_pos hw]
  rcases (show w = 0 ∨ w = 1 by omega) with rfl | rfl
  · rw [eq0_t rfl, x_pairs R X, bnd_some, if_pos rfl]
  · rw [eq0_f (by omega), x_rings R X, bnd_some, if_neg (by decide)]
theorem ag_changes : Ag_changes Rel := by
  rintro SX SM ⟨D, R, X, M⟩ x1
  obtain ⟨w, rfl, w1, w2⟩ := iI_of x1
  unfold m_X7_changes
  rw [m_inN (n := 2) l1 (by omega), bnd_some, ite01]
  by_cases q1 : 0 ≤ w ∧ w < 2
  · obtain ⟨T, t1, t2, V⟩ := m_changes R M q1
    rw [if_pos q1, x_changes R X q1, t1, bnd_some]
    exact ⟨_, _, _, rfl, rfl, D, R, X, V.1⟩
  · unfold m_X6_changes
    rw [l2, x_below (by omega), bnd_some, ite01, if_neg q1, if_neg q1]
    exact ⟨_, _, _, rfl, rfl, D, R, X, M⟩
