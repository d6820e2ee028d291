/-! sort, set -/
theorem RX.srt {S : St} {D : Nat → Nat → Int} (X : RX S D) {k : Nat} (j : Nat) (x : Int) (hk : k = 8 ∨ k = 9) : RX (sI (sI S 57 0 (0 : Int32)) (phi k) j (iI x)) (upD D k j x) := by
  obtain ⟨h1, h2, ⟨h3, h4⟩, h5, h6⟩ := X
  have F0 : Fr [57] S (sI S 57 0 (0 : Int32)) := Fr.rf.set (by decide)
  have F : Fr [57, 17, 18] S (sI (sI S 57 0 (0 : Int32)) (phi k) j (iI x)) := (Fr.rf.set (by decide)).set (by rcases hk with rfl | rfl <;> decide)
  have h57 : gI (sI (sI S 57 0 (0 : Int32)) (phi k) j (iI x)) 57 0 = iI 0 := by
    rw [gI_sI_n (by rcases hk with rfl | rfl <;> decide), gI_sI_k, if_pos rfl]
    rfl
  rcases hk with rfl | rfl
  · exact ⟨(h1.fr F0 (by decide)).up (k := 8) (by decide) j x, ItX.cong (D := D) ⟨fun s hs => by rw [F.1 _ _ (by decide)]; exact h2.1 s hs, fun s hs hq i hi => by rw [F.1 _ _ (by decide)]; exact h2.2 s hs hq i hi⟩ ⟨rfl, rfl, rfl⟩, ⟨h3.fr F (by decide), h4.fr F (by decide)⟩, h5.fr F (by decide), Or.inl h57⟩
  · exact ⟨(h1.fr F0 (by decide)).up (k := 9) (by decide) j x, ItX.cong (D := D) ⟨fun s hs => by rw [F.1 _ _ (by decide)]; exact h2.1 s hs, fun s hs hq i hi => by rw [F.1 _ _ (by decide)]; exact h2.2 s hs hq i hi⟩ ⟨rfl, rfl, rfl⟩, ⟨h3.fr F (by decide), h4.fr F (by decide)⟩, h5.fr F (by decide), Or.inl h57⟩
theorem ag_sort : Ag_sort Rel := by
  rintro SX SM ⟨D, R, X, M⟩ x1 x2 x3
  obtain ⟨a, rfl, a1, a2⟩ := iI_of x1
  obtain ⟨w, rfl, w1, w2⟩ := iI_of x2
  obtain ⟨v, rfl, v1, v2⟩ := iI_of x3
  unfold m_X6_sort m_X7_sort m_X3_changeNeed m_X3_changePay
  rw [l3, x_below (by omega), bnd_some, ite01, m_inN (n := 3) l2 (by omega), bnd_some, ite01]
  by_cases q1 : 0 ≤ a ∧ a < 3
  · rw [if_pos q1, if_pos q1, l2, x_below (by omega), bnd_some, ite01, m_inN (n := 2) l1 (by omega), bnd_some, ite01]
    by_cases q2 : 0 ≤ w ∧ w < 2
    · obtain ⟨c, rfl⟩ : ∃ c : Nat, a = c := ⟨a.toNat, by omega⟩
      have eX8 : gI (sI SX 57 0 (0 : Int32)) 17 c = iI (D 8 c) := by rw [gI_sI_n (by decide)]; exact X.1 8 c (show c < 3 by omega)
      have eX9 : gI (sI SX 57 0 (0 : Int32)) 18 c = iI (D 9 c) := by rw [gI_sI_n (by decide)]; exact X.1 9 c (show c < 3 by omega)
      have eM8 : gI SM 8 c = iI (D 8 c) := M.1 8 c (show c < 3 by omega)
      have eM9 : gI SM 9 c = iI (D 9 c) := M.1 9 c (show c < 3 by omega)
      rw [if_pos q2, if_pos q2]
      rcases (show w = 0 ∨ w = 1 by omega) with rfl | rfl
      · rw [eq0_t rfl, eq0_t rfl, l9999, l1, iI_add, x_below (by omega), bnd_some, ite01, m_inN (n := 10000) (N := iI 9999) rfl (by omega), bnd_some, ite01]
        by_cases q3 : 0 ≤ v ∧ v < 10000
        · rw [if_pos q3, if_pos (by omega), nm_eq, eq0_t rfl, eq0_t rfl, chk_t (by omega), nm_eq, chk_t (by omega), nm_eq, bnd_some, chk_t (by omega), nm_eq, eq0_t rfl, chk_t (by omega), nm_eq, ix_n (by omega), eX8, eM8]
          exact ⟨_, _, _, rfl, rfl, upD D 8 c v, R.up (show 0 ≤ v ∧ v ≤ 9999 by omega), X.srt c v (Or.inl rfl), M.up c v (by decide)⟩
        · rw [if_neg q3, if_neg (by omega)]
          exact ⟨_, _, _, rfl, rfl, D, R, X, M⟩
      · rw [eq0_f (by omega), eq0_f (by omega), l99, l1, iI_add, x_below (by omega), bnd_some, ite01, m_inN (n := 100) (N := iI 99) rfl (by omega), bnd_some, ite01]
        by_cases q3 : 0 ≤ v ∧ v < 100
        · rw [if_pos q3, if_pos (by omega), nm_eq, eq0_f (by omega), eq0_f (by omega), chk_t (by omega), nm_eq, chk_t (by omega), nm_eq, bnd_some, chk_t (by omega), nm_eq, eq0_f (by omega), chk_t (by omega), nm_eq, ix_n (by omega), eX9, eM9]
          exact ⟨_, _, _, rfl, rfl, upD D 9 c v, R.up (show 0 ≤ v ∧ v ≤ 99 by omega), X.srt c v (Or.inr rfl), M.up c v (by decide)⟩
        · rw [if_neg q3, if_neg (by omega)]
          exact ⟨_, _, _, rfl, rfl, D, R, X, M⟩
    · rw [if_neg q2, if_neg q2]
      exact ⟨_, _, _, rfl, rfl, D, R, X, M⟩
  · rw [if_neg q1, if_neg q1]
    exact ⟨_, _, _, rfl, rfl, D, R, X, M⟩
def VD (D : Nat → Nat → Int) (r code : Nat) : Int := Vf (D 8) (D 9) (yD D) (ND D) (ND D - r) code
theorem Vs_bd {nd py : Nat → Int} {y B : Int} {V : Nat → Int} {code : Nat} (hp : ∀ k, 0 ≤ py k ∧ py k ≤ 99) (hV : ∀ c, 0 ≤ V c ∧ V c ≤ B) : ∀ k, 0 ≤ Vs nd py y V code k ∧ Vs nd py y V code k ≤ B + 99
  | 0 => by
    have := hV code
    rw [Vs]
    omega
  | k + 1 => by
    have h1 := Vs_bd (nd := nd) (y := y) (code := code) hp hV k
    have h2 := hV (code + fiv k)
    have h3 := hp k
    rw [Vs]
    unfold mxI
    split
    · split <;> omega
    · omega
theorem Vf_bd {nd py y : Nat → Int} {N : Nat} (hp : ∀ k, 0 ≤ py k ∧ py k ≤ 99) : ∀ (k code : Nat), 0 ≤ Vf nd py y N k code ∧ Vf nd py y N k code ≤ 99 * k
  | 0, _ => by rw [Vf]; omega
  | k + 1, code => by
    have h1 := Vs_bd (nd := nd) (y := y (N - (k + 1))) (code := code) (B := 99 * k) hp (Vf_bd (nd := nd) (y := y) (N := N) hp k) 3
    rw [Vf]
    omega
theorem VD_bd {D : Nat → Nat → Int} (R : Rg D) (r code : Nat) : 0 ≤ VD D r code ∧ VD D r code ≤ 1188 := by
  have hN := ND_le (D := D)
  have h := Vf_bd (nd := D 8) (py := D 9) (y := yD D) (N := ND D) (fun k => R 9 k) (ND D - r) code
  unfold VD
  omega
theorem VD_s {D : Nat → Nat → Int} {r code : Nat} (h : r < ND D) : VD D r code = Vs (D 8) (D 9) (yD D r) (VD D (r + 1)) code 3 := by
  have e : VD D (r + 1) = Vf (D 8) (D 9) (yD D) (ND D) (ND D - (r + 1)) := rfl
  rw [e]
  unfold VD
  rw [show ND D - r = (ND D - (r + 1)) + 1 by omega, Vf, show ND D - (ND D - (r + 1) + 1) = r by omega]
theorem VD_N {D : Nat → Nat → Int} {code : Nat} : VD D (ND D) code = 0 := by
  unfold VD
  rw [Nat.sub_self, Vf]
theorem may_lt {nd : Nat → Int} {y : Int} {code k : Nat} (hc : code < 125) (h : may nd y code k = true) (hk : k < 3) : code + fiv k < 125 := by
  unfold may at h
  rw [Bool.and_eq_true, decide_eq_true_eq, decide_eq_true_eq] at h
  rcases (show k = 0 ∨ k = 1 ∨ k = 2 by omega) with rfl | rfl | rfl
  · have h2 : code / 1 % 5 < 4 := h.2
    show code + 1 < 125
    omega
  · have h2 : code / 5 % 5 < 4 := h.2
    show code + 5 < 125
    omega
  · have h2 : code / 25 % 5 < 4 := h.2
    show code + 25 < 125
    omega
theorem fiv_b (k : Nat) : 1 ≤ fiv k ∧ fiv k ≤ 25 := by
  unfold fiv
  split
  · omega
  · split <;> omega
theorem sa_c : ∀ v, v < 125 → (nI v - nI v / 5 * 5 = nI (v / 1 % 5)) ∧ (nI v / 5 - nI v / 5 / 5 * 5 = nI (v / 5 % 5)) ∧ nI v / 25 = nI (v / 25 % 5) := by decide +kernel
theorem sb_c : ∀ v, v < 125 → ∀ k, k < 3 → (nI v / nI (fiv k)) - (nI v / nI (fiv k)) / 5 * 5 = nI (v / fiv k % 5) := by decide +kernel
theorem fiv_0 : ∀ k, k < 3 → nI (fiv k) ≠ 0 := by decide +kernel
theorem x_ahead {S : St} {v k : Nat} (hv : v < 125) (hk : k < 3) : m_X3_standAhead (iI v) (iI k) S = some (iI ((v / fiv k % 5 : Nat) : Int), S) := by
  have h := sa_c v hv
  unfold m_X3_standAhead
  rw [iI_n v, iI_n (v / fiv k % 5)]
  rcases (show k = 0 ∨ k = 1 ∨ k = 2 by omega) with rfl | rfl | rfl
  · rw [eq0_t (a := ((0 : Nat) : Int)) rfl, dchk_t (by decide), h.1]; rfl
  · rw [eq0_f (by omega), l1, eq_t (a := ((1 : Nat) : Int)) (b := 1) rfl, dchk_t (by decide), dchk_t (by decide), h.2.1]; rfl
  · rw [eq0_f (by omega), l1, eq_f (by omega), dchk_t (by decide), h.2.2]; rfl
/-- what the planting reads -/
def PX (S : St) (D : Nat → Nat → Int) : Prop := (∀ k, k < 3 → gI S 17 k = iI (D 8 k)) ∧ (∀ k, k < 3 → gI S 18 k = iI (D 9 k)) ∧ ∀ c, c < ND D → gI S 14 c = iI (yD D c)
theorem PX.fr {S T : St} {D : Nat → Nat → Int} {K : List Nat} (P : PX S D) (F : Fr K S T) (h : ∀ a ∈ [17, 18, 14], a ∉ K) : PX T D := ⟨fun k hk => by rw [F.1 _ _ (h 17 (by decide))]; exact P.1 k hk, fun k hk => by rw [F.1 _ _ (h 18 (by decide))]; exact P.2.1 k hk, fun k hk => by rw [F.1 _ _ (h 14 (by decide))]; exact P.2.2 k hk⟩
def QX (S : St) (D : Nat → Nat → Int) (r : Nat) : Prop := PX S D ∧ ∀ q, r ≤ q → q ≤ ND D → ∀ code, code < 125 → gI S 20 (q * 125 + code) = iI (VD D q code)
theorem x_may {S : St} {D : Nat → Nat → Int} (R : Rg D) (P : PX S D) {code k : Nat} {y : Int} (hc : code < 125) (hk : k < 3) (hy : 0 ≤ y ∧ y ≤ 4752) : m_X3_mayStand (iI code) (iI k) (iI y) S = some (if may (D 8) y code k = true then 1 else 0, S) := by
  have r8 : 0 ≤ D 8 k ∧ D 8 k ≤ 9999 := R 8 k
  unfold m_X3_mayStand may
  rw [chk_t (by omega), ix_n (by omega), P.1 k hk, if_lt (by omega), x_ahead hc hk, bnd_some, l4, if_lt (by omega)]
  by_cases q : y < D 8 k
  · rw [if_pos q, if_neg (by simp; omega)]
  · rw [if_neg q]
    by_cases q2 : ((code / fiv k % 5 : Nat) : Int) < 4
    · rw [if_pos q2, if_pos (by simp; omega)]
    · rw [if_neg q2, if_neg (by simp; omega)]
theorem x_pay0 {S : St} {D : Nat → Nat → Int} {c code : Nat} (Q : QX S D (c + 1)) (hc : c < ND D) (hd : code < 125) : m_X3_payFrom (iI c) (iI code) (-1 : Int32) S = some (iI (VD D (c + 1) code), S) := by
  have hN := ND_le (D := D)
  unfold m_X3_payFrom m_X3_weightOf
  rw [if_pos rfl, bnd_some, l1, l125, iI_0, iI_add, iI_mul, iI_add, iI_add, show (((c : Int) + 1) * 125 + (code : Int) + 0) = (((c + 1) * 125 + code : Nat) : Int) by omega, chk_t (by omega), ix_n (by omega), nm_eq, if_pos rfl, Q.2 (c + 1) (by omega) (by omega) code hd]
theorem x_pay {S : St} {D : Nat → Nat → Int} {c code k : Nat} (Q : QX S D (c + 1)) (hc : c < ND D) (hd : code + fiv k < 125) (hk : k < 3) : m_X3_payFrom (iI c) (iI code) (iI k) S = some (iI (D 9 k + VD D (c + 1) (code + fiv k)), S) := by
  have hN := ND_le (D := D)
  have e : m_X3_weightOf (iI k) S = some (iI (fiv k : Nat), S) := by
    unfold m_X3_weightOf
    rw [eqm_f (by omega)]
    rcases (show k = 0 ∨ k = 1 ∨ k = 2 by omega) with rfl | rfl | rfl <;> rfl
  unfold m_X3_payFrom
  rw [e, bnd_some, show iI (c : Int) + (1 : Int32) = iI ((c : Int) + 1) from iI_add c 1, l125, iI_mul, iI_add, iI_add, show (((c : Int) + 1) * 125 + (code : Int) + (fiv k : Nat)) = (((c + 1) * 125 + (code + fiv k) : Nat) : Int) by omega, chk_t (by omega), ix_n (by omega), nm_eq, eqm_f (by omega), Q.2 (c + 1) (by omega) (by omega) _ hd, chk_t (by omega), ix_n (by omega), Q.1.2.1 k hk, iI_add]
theorem x_best {S : St} {D : Nat → Nat → Int} (R : Rg D) {c code : Nat} (Q : QX S D (c + 1)) (hc : c < ND D) (hd : code < 125) : m_X3_bestFrom (iI c) (iI code) (iI (yD D c)) S = some (iI (VD D c code), S) := by
  have hy := yD_bd R (show 0 < ND D by omega) c
  unfold m_X3_bestFrom
  rw [x_pay0 Q hc hd, bnd_some, VD_s hc]
  refine it2_inv (fun i x z T => x = iI (Vs (D 8) (D 9) (yD D c) (VD D (c + 1)) code i) ∧ z = iI (i : Int) ∧ T = S) 3 (fun q => q = some (iI (Vs (D 8) (D 9) (yD D c) (VD D (c + 1)) code 3), S)) ?_ ?_ 5000 0 _ _ S (by omega) (by omega) ⟨rfl, rfl, rfl⟩
  · rintro i x z T hi ⟨rfl, rfl, rfl⟩ rec
    refine ⟨_, _, T, ⟨rfl, rfl, rfl⟩, ?_⟩
    have b1 := Vs_bd (nd := D 8) (y := yD D c) (code := code) (fun k => R 9 k) (VD_bd R (c + 1)) i
    have r9 : 0 ≤ D 9 i ∧ D 9 i ≤ 99 := R 9 i
    have b2 := VD_bd R (c + 1) (code + fiv i)
    unfold b_X3_bestFrom_12
    rw [l3, lt_t (by omega), x_may R Q.1 hd hi hy, bnd_some, ite01, Vs]
    by_cases q : may (D 8) (yD D c) code i = true
    · rw [if_pos q, if_pos q, x_pay Q hc (may_lt hd q hi) hi, bnd_some, if_lt (by omega), nm_eq, l1, iI_add]
      unfold mxI
      by_cases q2 : Vs (D 8) (D 9) (yD D c) (VD D (c + 1)) code i < D 9 i + VD D (c + 1) (code + fiv i)
      · rw [if_pos q2, if_pos q2]; rfl
      · rw [if_neg q2, if_neg q2]; rfl
    · rw [if_neg q, if_neg q, l1, iI_add]; rfl
  · rintro x z T ⟨rfl, rfl, rfl⟩ rec
    unfold b_X3_bestFrom_12
    rw [l3, lt_f (by omega)]
theorem x_row {S : St} {D : Nat → Nat → Int} (R : Rg D) {c : Nat} {x2 : Int32} (Q : QX S D (c + 1)) (hc : c < ND D) {kk : St → Option St} : ∃ T, it1 (b_X3_plant_14_37 x2 (iI c) kk) 5000 (0 : Int32) S = kk T ∧ Fr [20] S T ∧ QX T D c := by
  have hN := ND_le (D := D)
  refine it1_inv (fun i x T => x = iI (i : Int) ∧ Fr [20] S T ∧ QX T D (c + 1) ∧ ∀ code, code < i → gI T 20 (c * 125 + code) = iI (VD D c code)) 125 (fun q => ∃ T, q = kk T ∧ Fr [20] S T ∧ QX T D c) ?_ ?_ 5000 0 _ S (by omega) (by omega) ⟨rfl, Fr.rf, Q, fun _ h => absurd h (Nat.not_lt_zero _)⟩
  · rintro i x T hi ⟨rfl, A1, A2, A3⟩ rec
    refine ⟨iI ((i + 1 : Nat) : Int), sI T 20 (c * 125 + i) (iI (VD D c i)), ⟨rfl, A1.set (by decide), ⟨A2.1.fr (K := [20]) (Fr.rf.set (by decide)) (by decide), fun q h1 h2 code h3 => ?_⟩, fun code hd => ?_⟩, ?_⟩
    · rw [gI_sI_k, if_neg (by omega)]; exact A2.2 q h1 h2 code h3
    · rw [gI_sI_k]
      by_cases e : code = i
      · rw [e, if_pos rfl]
      · rw [if_neg (by omega)]; exact A3 code (by omega)
    · unfold b_X3_plant_14_37
      rw [l125, lt_t (by omega), chk_t (by omega), ix_n (by omega), A2.1.2.2 c hc, x_best R A2 hc hi, bnd_some, iI_mul, iI_add, show ((c : Int) * 125 + (i : Int)) = ((c * 125 + i : Nat) : Int) by omega, chk_t (by omega), ix_n (by omega), nm_eq, l1, iI_add]
      rfl
  · rintro x T ⟨rfl, A1, A2, A3⟩ rec
    unfold b_X3_plant_14_37
    rw [l125, lt_f (by omega)]
    refine ⟨T, rfl, A1, A2.1, fun q h1 h2 code h3 => ?_⟩
    by_cases e : q = c
    · rw [e]; exact A3 code h3
    · exact A2.2 q (by omega) h2 code h3
theorem x_rows {S : St} {D : Nat → Nat → Int} (R : Rg D) {x2 : Int32} (Q : QX S D (ND D)) {kk : St → Option St} : ∃ T, it1 (b_X3_plant_14_30 x2 kk) 5000 (iI ((ND D : Nat) - 1)) S = kk T ∧ Fr [20] S T ∧ QX T D 0 := by
  have hN := ND_le (D := D)
  refine it1_inv (fun i x T => x = iI ((ND D : Int) - 1 - i) ∧ Fr [20] S T ∧ QX T D (ND D - i)) (ND D) (fun q => ∃ T, q = kk T ∧ Fr [20] S T ∧ QX T D 0) ?_ ?_ 5000 0 _ S (by omega) (by omega) ⟨by rw [show ((ND D : Int) - 1 - ((0 : Nat) : Int)) = (ND D : Int) - 1 by omega], Fr.rf, Q⟩
  · rintro i x T hi ⟨rfl, A1, A2⟩ rec
    obtain ⟨c, hc⟩ : ∃ c : Nat, ND D = c + 1 + i := ⟨ND D - 1 - i, by omega⟩
    have A2' : QX T D (c + 1) := by rw [show c + 1 = ND D - i by omega]; exact A2
    obtain ⟨U, u1, u2, u3⟩ := x_row R (c := c) (x2 := x2) A2' (by omega) (kk := fun S7 => rec (iI c + (-1)) S7)
    refine ⟨iI ((ND D : Int) - 1 - ((i + 1 : Nat) : Int)), U, ⟨rfl, A1.tr u2, by rw [show ND D - (i + 1) = c by omega]; exact u3⟩, ?_⟩
    unfold b_X3_plant_14_30
    rw [show ((ND D : Int) - 1 - (i : Int)) = (c : Int) by omega, lt0_f (by omega), u1, lm1, iI_add, show ((ND D : Int) - 1 - ((i + 1 : Nat) : Int)) = (c : Int) + -1 by omega]
  · rintro x T ⟨rfl, A1, A2⟩ rec
    unfold b_X3_plant_14_30
    rw [lt0_t (by omega)]
    exact ⟨T, rfl, A1, by rw [Nat.sub_self] at A2; exact A2⟩
theorem x_zero {S : St} {D : Nat → Nat → Int} (P : PX S D) {kk : St → Option St} : ∃ T, it1 (b_X3_plant_14_2 (iI ((ND D : Nat) : Int)) kk) 5000 (0 : Int32) S = kk T ∧ Fr [20] S T ∧ QX T D (ND D) := by
  have hN := ND_le (D := D)
  refine it1_inv (fun i x T => x = iI (i : Int) ∧ Fr [20] S T ∧ ∀ code, code < i → gI T 20 (ND D * 125 + code) = iI 0) 125 (fun q => ∃ T, q = kk T ∧ Fr [20] S T ∧ QX T D (ND D)) ?_ ?_ 5000 0 _ S (by omega) (by omega) ⟨rfl, Fr.rf, fun _ h => absurd h (Nat.not_lt_zero _)⟩
  · rintro i x T hi ⟨rfl, A1, A3⟩ rec
    refine ⟨iI ((i + 1 : Nat) : Int), sI T 20 (ND D * 125 + i) (iI 0), ⟨rfl, A1.set (by decide), fun code hd => ?_⟩, ?_⟩
    · rw [gI_sI_k]
      by_cases e : code = i
      · rw [e, if_pos rfl]
      · rw [if_neg (by omega)]; exact A3 code (by omega)
    · unfold b_X3_plant_14_2
      rw [l125, lt_t (by omega), iI_mul, iI_add, show (((ND D : Nat) : Int) * 125 + (i : Int)) = ((ND D * 125 + i : Nat) : Int) by omega, chk_t (by omega), ix_n (by omega), nm_eq, l1, iI_add]
      rfl
  · rintro x T ⟨rfl, A1, A3⟩ rec
    unfold b_X3_plant_14_2
    rw [l125, lt_f (by omega)]
    refine ⟨T, rfl, A1, P.fr A1 (by decide), fun q h1 h2 code h3 => ?_⟩
    rw [show q = ND D by omega, VD_N]
    exact A3 code h3
/-- the most is reached by standing still or by one of the sorts -/
theorem Vs_at {nd py : Nat → Int} {y : Int} {V : Nat → Int} {code : Nat} : ∀ k, Vs nd py y V code k = V code ∨ ∃ j, j < k ∧ may nd y code j = true ∧ py j + V (code + fiv j) = Vs nd py y V code k
  | 0 => Or.inl rfl
  | k + 1 => by
    rw [Vs]
    by_cases q : may nd y code k = true
    · rw [if_pos q]
      unfold mxI
      by_cases q2 : Vs nd py y V code k < py k + V (code + fiv k)
      · rw [if_pos q2]
        exact Or.inr ⟨k, by omega, q, rfl⟩
      · rw [if_neg q2]
        rcases Vs_at (nd := nd) (py := py) (y := y) (V := V) (code := code) k with h | ⟨j, h1, h2, h3⟩
        · exact Or.inl h
        · exact Or.inr ⟨j, by omega, h2, h3⟩
    · rw [if_neg q]
      rcases Vs_at (nd := nd) (py := py) (y := y) (V := V) (code := code) k with h | ⟨j, h1, h2, h3⟩
      · exact Or.inl h
      · exact Or.inr ⟨j, by omega, h2, h3⟩
def htD (D : Nat → Nat → Int) (c code k : Nat) : Bool := hit (D 8) (D 9) (yD D) (ND D) c code k
def chD (D : Nat → Nat → Int) (c code : Nat) : Int := chs (D 8) (D 9) (yD D) (ND D) c code
def cdD (D : Nat → Nat → Int) (c : Nat) : Nat := cod (D 8) (D 9) (yD D) (ND D) c
theorem ht_iff {D : Nat → Nat → Int} {c code k : Nat} : htD D c code k = true ↔ may (D 8) (yD D c) code k = true ∧ D 9 k + VD D (c + 1) (code + fiv k) = VD D c code := by
  unfold htD hit
  rw [Bool.and_eq_true, decide_eq_true_eq]
  rfl
theorem ch_eq (D : Nat → Nat → Int) (c code : Nat) : chD D c code = if VD D (c + 1) code = VD D c code then -1 else if htD D c code 0 = true then 0 else if htD D c code 1 = true then 1 else 2 := rfl
theorem ht_2 {D : Nat → Nat → Int} {c code : Nat} (hc : c < ND D) (h : ¬ VD D (c + 1) code = VD D c code) (h0 : ¬ htD D c code 0 = true) (h1 : ¬ htD D c code 1 = true) : htD D c code 2 = true := by
  rcases Vs_at (nd := D 8) (py := D 9) (y := yD D c) (V := VD D (c + 1)) (code := code) 3 with g | ⟨j, g1, g2, g3⟩
  · rw [← VD_s hc] at g
    exact absurd g.symm h
  · rw [← VD_s hc] at g3
    have := ht_iff.mpr ⟨g2, g3⟩
    rcases (show j = 0 ∨ j = 1 ∨ j = 2 by omega) with rfl | rfl | rfl
    · exact absurd this h0
    · exact absurd this h1
    · exact this
theorem ch_cases {D : Nat → Nat → Int} {c code : Nat} (hc : c < ND D) : (chD D c code = -1 ∧ VD D (c + 1) code = VD D c code) ∨ ∃ k : Nat, k < 3 ∧ chD D c code = k ∧ htD D c code k = true ∧ ¬ VD D (c + 1) code = VD D c code ∧ ∀ j, j < k → ¬ htD D c code j = true := by
  rw [ch_eq]
  by_cases h : VD D (c + 1) code = VD D c code
  · rw [if_pos h]; exact Or.inl ⟨rfl, h⟩
  · rw [if_neg h]
    by_cases h0 : htD D c code 0 = true
    · rw [if_pos h0]; exact Or.inr ⟨0, by omega, rfl, h0, h, fun j hj => absurd hj (Nat.not_lt_zero _)⟩
    · rw [if_neg h0]
      by_cases h1 : htD D c code 1 = true
      · rw [if_pos h1]; exact Or.inr ⟨1, by omega, rfl, h1, h, fun j hj => by rw [show j = 0 by omega]; exact h0⟩
      · rw [if_neg h1]
        refine Or.inr ⟨2, by omega, rfl, ht_2 hc h h0 h1, h, fun j hj => ?_⟩
        rcases (show j = 0 ∨ j = 1 by omega) with rfl | rfl
        · exact h0
        · exact h1
theorem cd_lt {D : Nat → Nat → Int} : ∀ c, c ≤ ND D → cdD D c < 125
  | 0, _ => by show 0 < 125; omega
  | c + 1, h => by
    have ih := cd_lt (D := D) c (by omega)
    show cdD D c + wgt (chD D c (cdD D c)) < 125
    rcases ch_cases (D := D) (c := c) (code := cdD D c) (by omega) with ⟨g, -⟩ | ⟨k, hk, g, g2, -, -⟩
    · rw [g]; show cdD D c + 0 < 125; omega
    · rw [g]
      have e : wgt ((k : Nat) : Int) = fiv k := by unfold wgt; rw [if_neg (by omega)]; rfl
      rw [e]
      exact may_lt ih (ht_iff.mp g2).1 hk
