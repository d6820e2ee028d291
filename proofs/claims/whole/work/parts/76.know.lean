/-! the class knows the parts; the reference's differs -/
theorem wD_le {D : Nat → Nat → Int} : wD D ≤ 4 := by
  rcases prs_cases (D 1) (nD D) with ⟨h1, h2, h3⟩ | ⟨h0, h1, h2, h3⟩ | ⟨h1, h2, h3, h4, h5, h6, h7⟩
  · show wd (D 1) (nD D) ≤ 4; omega
  · show wd (D 1) (nD D) ≤ 4; omega
  · show wd (D 1) (nD D) ≤ 4; omega
theorem RX.parted {S T : St} {D : Nat → Nat → Int} (X : RX S D) (F : Fr [45, 46, 47, 48, 49, 15, 16, 50, 51, 56] S T) (h : Pk T D) : RX T D := ⟨X.1.fr F (by decide), X.2.1.fr F (by decide), ⟨X.2.2.1.1.fr F (by decide), X.2.2.1.2.fr F (by decide)⟩, h, X.2.2.2.2.fr F (by decide)⟩
theorem x_know {S : St} {D : Nat → Nat → Int} (R : Rg D) (X : RX S D) : ∃ T, m_X6_knowParts S = some T ∧ RX T D ∧ gI T 50 0 = iI (fpD D) ∧ gI T 51 0 = iI (dfD D) := by
  have hN := ND_le (D := D)
  have e43 : gI S 43 0 = iI ((ND D : Nat) : Int) := X.2.2.1.1.2.1
  have e42 : gI S 42 0 = iI ((wD D : Nat) : Int) := X.2.2.1.1.2.2.1
  unfold m_X6_knowParts m_X5_years
  rcases X.2.2.2.1 with h | ⟨h1, h2, h3⟩
  · obtain ⟨T, t1, t2, t3, t4⟩ := x_part (S := S) (y := yD D) (w := wD D) (N := ND D) hN (fun h => by have := wD_4 R h; omega) wD_le e43 e42 (fun c hc => (X.2.2.1.1.2.2.2.2 c hc).2) (fun c hc => X.2.2.1.2.2 c hc) (fun c hc => yD_bd R (by omega) c)
    refine ⟨sI T 56 0 (1 : Int32), by rw [h, eq0_t rfl, bndV_some, t1, bndV_some, nm_eq], X.parted ((t2.mono (by decide)).set (by decide)) (Or.inr ⟨by rw [gI_sI_k, if_pos rfl]; rfl, by rw [gI_sI_n (by decide)]; exact t3, by rw [gI_sI_n (by decide)]; exact t4⟩), by rw [gI_sI_n (by decide)]; exact t3, by rw [gI_sI_n (by decide)]; exact t4⟩
  · exact ⟨S, by rw [h1, eq0_f (by omega)], X, h2, h3⟩
theorem x_parts {S : St} {D : Nat → Nat → Int} (R : Rg D) (X : RX S D) {a : Int} (ha : 0 ≤ a ∧ a < 2) : ∃ T, m_X6_parts (iI a) S = some (if a = 0 then iI (dfD D) else iI (fpD D), T) ∧ RX T D := by
  obtain ⟨T, t1, t2, t3, t4⟩ := x_know R X
  refine ⟨T, ?_, t2⟩
  unfold m_X6_parts m_X2_leastDifference m_X2_firstPart
  rw [l2, x_below (by omega), bnd_some, ite01, if_pos ha, t1, bndV_some]
  rcases (show a = 0 ∨ a = 1 by omega) with rfl | rfl
  · rw [eq0_t rfl, bnd_some, if_pos rfl, t4]
  · rw [eq0_f (by omega), bnd_some, if_neg (by decide), t3]
/- the reference -/
theorem m_isinv {S : St} {v c : Nat} (hv : v < 2147483648) (hc : c < 31) : m_X7_isIn (nI v) (iI c) S = some (if v.testBit c = true then 1 else 0, S) := by
  unfold m_X7_isIn
  rw [iI_n, shr_bit hv hc, Nat.testBit_eq_decide_div_mod_eq]
  by_cases q : v / 2 ^ c % 2 = 1
  · rw [q, if_pos (show nI 1 = 1 from rfl), if_pos (by decide)]
  · rw [show v / 2 ^ c % 2 = 0 by omega, if_neg (by decide), if_neg (by decide)]
def Yv (S : St) (y : Nat → Int) (N : Nat) : Prop := gI S 41 0 = iI (N : Nat) ∧ ∀ c, c < N → gI S 10 c = iI (y c)
theorem m_diff {S : St} {y : Nat → Int} {N v : Nat} (H : Yv S y N) (hN : N ≤ 12) (hv : v < 2147483648) (hy : ∀ c, c < N → 0 ≤ y c ∧ y c ≤ 4752) : m_X7_differs (nI v) S = some (iI (difP N y v), S) := by
  have b := sumP_bd (v := v) hN hy
  unfold m_X7_differs
  refine it2_inv (fun i x z T => x = iI (sm (fun c => if v.testBit c then y c else -y c) i) ∧ z = iI (i : Int) ∧ T = S) N (fun q => q = some (iI (difP N y v), S)) ?_ ?_ 5000 0 _ _ S (by omega) (by omega) ⟨rfl, rfl, rfl⟩
  · rintro i x z T hi ⟨rfl, rfl, rfl⟩ rec
    refine ⟨_, _, T, ⟨rfl, rfl, rfl⟩, ?_⟩
    unfold b_X7_differs_4
    rw [H.1, lt_t (by omega), m_isinv hv (by omega), bnd_some, ite01, sm]
    by_cases q : v.testBit i = true
    · rw [if_pos q, if_pos q, chk_t (by omega), ix_n (by omega), H.2 i hi, iI_add, nm_eq, l1, iI_add]; rfl
    · rw [if_neg q, if_neg q, chk_t (by omega), ix_n (by omega), H.2 i hi, iI_neg, iI_add, nm_eq, l1, iI_add]; rfl
  · rintro x z T ⟨rfl, rfl, rfl⟩ rec
    unfold b_X7_differs_4
    rw [H.1, lt_f (by omega)]
    show (if iI (sumP N y v) < 0 then some (-iI (sumP N y v), T) else some (iI (sumP N y v), T)) = _
    unfold difP
    by_cases q : sumP N y v < 0
    · rw [lt0_t (by omega), if_pos q, iI_neg]
    · rw [lt0_f (by omega), if_neg q]
/-- two cells are next to each other -/
def adj (w a b : Nat) : Bool := if a < b then (decide (b - a = w) || (decide (b - a = 1) && decide (a / w = b / w))) else (decide (a - b = w) || (decide (a - b = 1) && decide (a / w = b / w)))
theorem dv_c : ∀ w, w < 5 → 1 ≤ w → ∀ a, a < 12 → nI a / nI w = nI (a / w) := by decide +kernel
theorem m_next {S : St} {w a b : Nat} (h42 : gI S 42 0 = iI (w : Nat)) (hw : 1 ≤ w ∧ w ≤ 4) (ha : a < 12) (hb : b < 12) : m_X7_isNext (iI a) (iI b) S = some (if adj w a b = true then 1 else 0, S) := by
  have d0 : iI (w : Nat) ≠ 0 := fun g => by
    have := (iI_eq (a := (w : Int)) (b := 0) (by omega) (by omega) (by omega) (by omega)).mp g
    omega
  have da : iI (a : Nat) / iI (w : Nat) = iI ((a / w : Nat) : Int) := by rw [iI_n, iI_n, dv_c w (by omega) (by omega) a ha, iI_n]
  have db : iI (b : Nat) / iI (w : Nat) = iI ((b / w : Nat) : Int) := by rw [iI_n, iI_n, dv_c w (by omega) (by omega) b hb, iI_n]
  have la : a / w ≤ a := Nat.div_le_self _ _
  have lb : b / w ≤ b := Nat.div_le_self _ _
  unfold m_X7_isNext adj
  generalize a / w = qa at *
  generalize b / w = qb at *
  rw [h42, if_lt (by omega)]
  by_cases q : a < b
  · rw [if_pos (show (a : Int) < b by omega), if_pos q, iI_sub, nm_eq, if_eq (by omega)]
    by_cases q1 : b - a = w
    · rw [if_pos (by omega), if_pos (by simp [q1])]
    · rw [if_neg (by omega), l1, if_eq (by omega)]
      by_cases q2 : b - a = 1
      · rw [if_pos (by omega), dchk_t d0, dchk_t d0, da, db, if_eq (by omega)]
        by_cases q3 : qa = qb
        · rw [if_pos (by omega), if_pos (by simp [q2, q3])]
        · rw [if_neg (by omega), if_neg (by simp [q1, q3])]
      · rw [if_neg (by omega), if_neg (by simp [q1, q2])]
  · rw [if_neg (show ¬ (a : Int) < b by omega), if_neg q, iI_sub, nm_eq, if_eq (by omega)]
    by_cases q1 : a - b = w
    · rw [if_pos (by omega), if_pos (by simp [q1])]
    · rw [if_neg (by omega), l1, if_eq (by omega)]
      by_cases q2 : a - b = 1
      · rw [if_pos (by omega), dchk_t d0, dchk_t d0, da, db, if_eq (by omega)]
        by_cases q3 : qa = qb
        · rw [if_pos (by omega), if_pos (by simp [q2, q3])]
        · rw [if_neg (by omega), if_neg (by simp [q1, q3])]
      · rw [if_neg (by omega), if_neg (by simp [q1, q2])]
