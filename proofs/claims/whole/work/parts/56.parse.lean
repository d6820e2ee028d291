/-! PURE: the hill's text -/
def isF (t : Nat → Int) (n p : Nat) : Bool := decide (p < n ∧ 48 ≤ t p ∧ t p ≤ 57)
def fgs (f : Nat → Bool) : Nat → Nat → Nat
  | 0, _ => 0
  | k + 1, p => if f p then fgs f k (p + 1) + 1 else 0
theorem fgs_le (f : Nat → Bool) : ∀ k p, fgs f k p ≤ k
  | 0, _ => Nat.le_refl _
  | k + 1, p => by
    have := fgs_le f k (p + 1)
    rw [fgs]
    split <;> omega
theorem fgs_in (f : Nat → Bool) : ∀ k p i, i < fgs f k p → f (p + i) = true
  | 0, _, _, h => absurd h (Nat.not_lt_zero _)
  | k + 1, p, i, h => by
    rw [fgs] at h
    by_cases q : f p = true
    · rw [if_pos q] at h
      cases i with
      | zero => exact q
      | succ i =>
        have := fgs_in f k (p + 1) i (by omega)
        rwa [show p + (i + 1) = p + 1 + i by omega]
    · rw [if_neg q] at h
      omega
theorem fgs_end (f : Nat → Bool) : ∀ k p, fgs f k p < k → f (p + fgs f k p) = false
  | 0, _, h => absurd h (Nat.not_lt_zero _)
  | k + 1, p, h => by
    rw [fgs] at h ⊢
    by_cases q : f p = true
    · rw [if_pos q] at h ⊢
      have := fgs_end f k (p + 1) (by omega)
      rwa [show p + (fgs f k (p + 1) + 1) = p + 1 + fgs f k (p + 1) by omega]
    · rw [if_neg q]
      simpa using q
/-- row by row: the fault (none: -1), how wide, how many rows -/
def par (t : Nat → Int) (n : Nat) : Nat → Nat → Nat → Nat → Int × Nat × Nat
  | 0, _, _, p => (p, 0, 0)
  | k + 1, row, lim, p =>
    if fgs (isF t n) lim p = 0 ∨ fgs (isF t n) lim p < (if row = 0 then fgs (isF t n) lim p else lim) then ((p + fgs (isF t n) lim p : Nat), 0, 0)
    else if p + fgs (isF t n) lim p = n then (-1, (if row = 0 then fgs (isF t n) lim p else lim), row + 1)
    else if t (p + fgs (isF t n) lim p) = 59 then par t n k (row + 1) (if row = 0 then fgs (isF t n) lim p else lim) (p + fgs (isF t n) lim p + 1)
    else ((p + fgs (isF t n) lim p : Nat), 0, 0)
def prs (t : Nat → Int) (n : Nat) : Int × Nat × Nat := if n = 0 then (-1, 0, 0) else par t n 3 0 4 0
/-- places ahead of p are as they must be in rows w wide -/
def Pat (t : Nat → Int) (w p : Nat) : Prop := ∀ i, i < p → if i % (w + 1) = w then t i = 59 else (48 ≤ t i ∧ t i ≤ 57)
theorem isF_t {t : Nat → Int} {n p : Nat} (h : isF t n p = true) : p < n ∧ 48 ≤ t p ∧ t p ≤ 57 := by simpa [isF] using h
theorem par_row {t : Nat → Int} {n : Nat} : ∀ k row W p, 1 ≤ row → row + k = 3 → 1 ≤ W ∧ W ≤ 4 → p = row * (W + 1) → Pat t W p → (∃ f : Nat, par t n k row W p = ((f : Int), 0, 0)) ∨ ∃ r, par t n k row W p = (-1, W, r) ∧ 1 ≤ r ∧ r ≤ 3 ∧ n + 1 = r * (W + 1) ∧ Pat t W n := by
  intro k
  induction k with
  | zero => intro row W p _ _ _ _ _; exact Or.inl ⟨p, rfl⟩
  | succ k ih =>
    intro row W p h1 h2 h3 h4 h5
    unfold par
    have hr : row ≠ 0 := by omega
    simp only [if_neg hr]
    have hle := fgs_le (isF t n) W p
    have hin := fgs_in (isF t n) W p
    generalize fgs (isF t n) W p = m at *
    by_cases q : m = 0 ∨ m < W
    · rw [if_pos q]; exact Or.inl ⟨_, rfl⟩
    · rw [if_neg q]
      have em : m = W := by omega
      subst em
      have hP : Pat t m (p + m) := fun i hi => by
        by_cases g : i < p
        · exact h5 i g
        · obtain ⟨d, rfl⟩ : ∃ d, i = p + d := ⟨i - p, by omega⟩
          have hm : (p + d) % (m + 1) = d := by
            rw [h4, Nat.add_comm, Nat.add_mul_mod_self_right, Nat.mod_eq_of_lt (by omega)]
          rw [hm, if_neg (by omega)]
          exact (isF_t (hin d (by omega))).2
      by_cases q2 : p + m = n
      · rw [if_pos q2]
        refine Or.inr ⟨row + 1, rfl, by omega, by omega, ?_, q2 ▸ hP⟩
        rw [← q2, h4, Nat.add_mul]
        omega
      · rw [if_neg q2]
        by_cases q3 : t (p + m) = 59
        · rw [if_pos q3]
          refine ih (row + 1) m (p + m + 1) (by omega) (by omega) h3 ?_ (fun i hi => ?_)
          · rw [h4, Nat.add_mul]; omega
          · by_cases g : i < p + m
            · exact hP i g
            · have e : i = p + m := by omega
              subst e
              have hm : (p + m) % (m + 1) = m := by
                rw [h4, Nat.add_comm, Nat.add_mul_mod_self_right, Nat.mod_eq_of_lt (by omega)]
              rw [if_pos hm]
              exact q3
        · rw [if_neg q3]; exact Or.inl ⟨_, rfl⟩
theorem prs_ok (t : Nat → Int) (n : Nat) : (∃ f : Nat, prs t n = ((f : Int), 0, 0)) ∨ (n = 0 ∧ prs t n = (-1, 0, 0)) ∨ ∃ w r, prs t n = (-1, w, r) ∧ 1 ≤ w ∧ w ≤ 4 ∧ 1 ≤ r ∧ r ≤ 3 ∧ n + 1 = r * (w + 1) ∧ Pat t w n := by
  unfold prs
  by_cases h0 : n = 0
  · rw [if_pos h0]; exact Or.inr (Or.inl ⟨h0, rfl⟩)
  · rw [if_neg h0]
    unfold par
    simp only [if_true, Nat.zero_add]
    have hle := fgs_le (isF t n) 4 0
    have hin := fgs_in (isF t n) 4 0
    generalize fgs (isF t n) 4 0 = m at *
    by_cases q : m = 0 ∨ m < m
    · rw [if_pos q]; exact Or.inl ⟨_, rfl⟩
    · rw [if_neg q]
      have hP : Pat t m m := fun i hi => by
        rw [Nat.mod_eq_of_lt (by omega), if_neg (by omega)]
        have := isF_t (hin i hi)
        rw [Nat.zero_add] at this
        exact this.2
      by_cases q2 : m = n
      · rw [if_pos q2]
        exact Or.inr (Or.inr ⟨m, 1, rfl, by omega, by omega, by omega, by omega, by omega, q2 ▸ hP⟩)
      · rw [if_neg q2]
        by_cases q3 : t m = 59
        · rw [if_pos q3]
          rcases par_row (t := t) (n := n) 2 1 m (m + 1) (by omega) (by omega) (by omega) (by omega) (fun i hi => by
            by_cases g : i < m
            · exact hP i g
            · have e : i = m := by omega
              subst e
              rw [if_pos (Nat.mod_eq_of_lt (by omega))]
              exact q3) with h | ⟨r, h1, h2, h3, h4, h5⟩
          · exact Or.inl h
          · exact Or.inr (Or.inr ⟨m, r, h1, by omega, by omega, h2, h3, h4, h5⟩)
        · rw [if_neg q3]; exact Or.inl ⟨_, rfl⟩
/-- the class reads its text -/
def TX_ (S : St) (t : Nat → Int) (n : Nat) : Prop := n ≤ 20 ∧ gI S 40 0 = iI n ∧ (∀ j, j < 20 → gI S 7 j = iI (t j)) ∧ ∀ j, 0 ≤ t j ∧ t j ≤ 255
theorem x_isFig {S : St} {z : Int} (hz : 0 ≤ z ∧ z ≤ 255) : m_X1_isFigure (iI z) S = some (if 48 ≤ z ∧ z ≤ 57 then 1 else 0, S) := by
  unfold m_X1_isFigure
  rw [l48, l57, if_lt (by omega), if_lt (by omega)]
  by_cases a : z < 48
  · rw [if_pos a, if_neg (by omega)]
  · rw [if_neg a]
    by_cases b : 57 < z
    · rw [if_pos b, if_neg (by omega)]
    · rw [if_neg b, if_pos (by omega)]
theorem x_ends {S : St} {row m lim : Nat} (h : row < 100 ∧ m < 100 ∧ lim < 100) : m_X1_endsRow (iI row) (iI m) (iI lim) S = some (if (if row = 0 then 0 < m else m = lim) then 1 else 0, S) := by
  unfold m_X1_endsRow
  rw [show (0 : Int32) = iI 0 from rfl, if_eq (by omega), if_lt (by omega), if_eq (by omega)]
  by_cases a : row = 0
  · rw [if_pos (by omega)]
    by_cases b : 0 < m
    · rw [if_pos (by omega), if_pos (by rw [if_pos a]; exact b)]
    · rw [if_neg (by omega), if_neg (by rw [if_pos a]; exact b)]
  · rw [if_neg (by omega)]
    by_cases b : m = lim
    · rw [if_pos (by omega), if_pos (by rw [if_neg a]; exact b)]
    · rw [if_neg (by omega), if_neg (by rw [if_neg a]; exact b)]
section
variable {S : St} {t : Nat → Int} {n : Nat} {kk : Int32 → Int32 → Int32 → St → Option (Int32 × St)}
theorem x_scan (X : TX_ S t n) {row lim : Nat} (hrow : row < 3) (hlim : lim ≤ 4) : ∀ d m p N, lim - m ≤ d → m ≤ lim → p ≤ n → it4 (b_X1_findFault_9 kk) (N + fgs (isF t n) (lim - m) p) (iI row) (iI m) (iI lim) (iI p) S = it4 (b_X1_findFault_9 kk) N (iI row) (iI ((m + fgs (isF t n) (lim - m) p : Nat) : Int)) (iI lim) (iI ((p + fgs (isF t n) (lim - m) p : Nat) : Int)) S := by
  obtain ⟨hn, X1, X2, X3⟩ := X
  intro d
  induction d with
  | zero =>
    intro m p N h1 h2 h3
    rw [show lim - m = 0 by omega]
    rfl
  | succ d ih =>
    intro m p N h1 h2 h3
    by_cases hm : m = lim
    · rw [show lim - m = 0 by omega]
      rfl
    · obtain ⟨e, he⟩ : ∃ e, lim - m = e + 1 := ⟨lim - m - 1, by omega⟩
      rw [he, fgs]
      by_cases q : isF t n p = true
      · rw [if_pos q]
        have hq := isF_t q
        have := ih (m + 1) (p + 1) N (by omega) (by omega) (by omega)
        rw [show lim - (m + 1) = e by omega] at this
        have step : ∀ rec, b_X1_findFault_9 kk rec (iI row) (iI m) (iI lim) (iI p) S = rec (iI row) (iI ((m + 1 : Nat) : Int)) (iI lim) (iI ((p + 1 : Nat) : Int)) S := fun rec => by
          unfold b_X1_findFault_9
          rw [X1, lt_t (by omega), l3, eq_f (by omega), chk_t (by omega), ix_n (by omega), X2 p (by omega), x_isFig (X3 p), bnd_some, if_pos hq.2, if_neg (by decide), lt_t (by omega), l1, iI_add, iI_add]
          rfl
        rw [← Nat.add_assoc, it4_s, step, this, show m + 1 + fgs (isF t n) e (p + 1) = m + (fgs (isF t n) e (p + 1) + 1) by omega, show p + 1 + fgs (isF t n) e (p + 1) = p + (fgs (isF t n) e (p + 1) + 1) by omega]
      · rw [if_neg q]
        rfl
/-- a whole search, row by row -/
theorem x_find (X : TX_ S t n) (hn0 : n ≠ 0) (hkk : ∀ row m lim : Nat, row < 100 → m < 100 → lim < 100 → kk (iI row) (iI m) (iI lim) S = some (if row < 3 ∧ (if row = 0 then 0 < m else m = lim) then -1 else iI n, S)) : ∀ k row lim p N : Nat, row + k = 3 → 1 ≤ lim ∧ lim ≤ 4 → p ≤ n → 10 * k + 10 ≤ N → it4 (b_X1_findFault_9 kk) N (iI row) (iI 0) (iI lim) (iI p) S = some (iI (par t n k row lim p).1, S) := by
  have X' := X
  obtain ⟨hn, X1, X2, X3⟩ := X
  intro k
  induction k with
  | zero =>
    intro row lim p N h1 h2 h3 h4
    obtain ⟨N, rfl⟩ : ∃ M, N = M + 1 := ⟨N - 1, by omega⟩
    rw [it4_s]
    unfold b_X1_findFault_9
    rw [X1]
    by_cases q : p < n
    · rw [lt_t (by omega), l3, eq_t (by omega)]
      rfl
    · rw [lt_f (by omega), show iI 0 = iI ((0 : Nat) : Int) from rfl, hkk row 0 lim (by omega) (by omega) (by omega), if_neg (by omega), show n = p by omega]
      rfl
  | succ k ih =>
    intro row lim p N h1 h2 h3 h4
    have hle := fgs_le (isF t n) lim p
    have hend := fgs_end (isF t n) lim p
    have hin := fgs_in (isF t n) lim p
    have hsc := x_scan (kk := kk) X' (row := row) (lim := lim) (by omega) h2.2 lim 0 p (N - fgs (isF t n) lim p) (by omega) (by omega) h3
    rw [Nat.sub_zero, Nat.zero_add, Nat.sub_add_cancel (by omega)] at hsc
    rw [show iI 0 = iI ((0 : Nat) : Int) from rfl, hsc]
    unfold par
    generalize fgs (isF t n) lim p = m at *
    have hpm : p + m ≤ n := by
      cases m with
      | zero => omega
      | succ m => have := (isF_t (hin m (by omega))).1; omega
    obtain ⟨N2, hN2⟩ : ∃ M, N - m = M + 1 := ⟨N - m - 1, by omega⟩
    rw [hN2, it4_s]
    have hc1 : ∀ rec, b_X1_findFault_9 kk rec (iI row) (iI m) (iI lim) (iI ((p + m : Nat) : Int)) S = if p + m = n then kk (iI row) (iI m) (iI lim) S else if t (p + m) = 59 ∧ (if row = 0 then 0 < m else m = lim) then rec (iI ((row + 1 : Nat) : Int)) (iI 0) (iI m) (iI ((p + m + 1 : Nat) : Int)) S else some (iI ((p + m : Nat) : Int), S) := by
      intro rec
      unfold b_X1_findFault_9
      rw [X1]
      by_cases q : p + m = n
      · rw [lt_f (by omega), if_pos q]
      · rw [lt_t (by omega), if_neg q, l3, eq_f (by omega), chk_t (by omega), ix_n (by omega), X2 _ (by omega), x_isFig (X3 _), bnd_some]
        have htl := X3 (p + m)
        have inner : (chk (iI ((p + m : Nat) : Int)) 20 <| if iI (t (p + m)) = (59 : Int32) then (bnd (m_X1_endsRow (iI row) (iI m) (iI lim) S) fun r4 S3 => if r4 = 0 then some (iI ((p + m : Nat) : Int), S3) else rec (iI row + 1) (0 : Int32) (iI m) (iI ((p + m : Nat) : Int) + 1) S3) else some (iI ((p + m : Nat) : Int), S)) = if t (p + m) = 59 ∧ (if row = 0 then 0 < m else m = lim) then rec (iI ((row + 1 : Nat) : Int)) (iI 0) (iI m) (iI ((p + m + 1 : Nat) : Int)) S else some (iI ((p + m : Nat) : Int), S) := by
          rw [chk_t (by omega), l59, if_eq (by omega), x_ends (by omega), bnd_some]
          by_cases q1 : t (p + m) = 59
          · rw [if_pos q1]
            by_cases q2 : (if row = 0 then 0 < m else m = lim)
            · rw [if_pos q2, if_neg (by decide), if_pos ⟨q1, q2⟩, l1, iI_add, iI_add]
              rfl
            · rw [if_neg q2, if_pos rfl, if_neg (fun z => q2 z.2)]
          · rw [if_neg q1, if_neg (fun z => q1 z.1)]
        by_cases q1 : 48 ≤ t (p + m) ∧ t (p + m) ≤ 57
        · rw [if_pos q1, if_neg (by decide)]
          have hml : ¬ m < lim := fun z => by
            have := hend z
            simp [isF] at this
            omega
          rw [lt_f (by omega)]
          rw [X2 _ (by omega)]
          exact inner
        · rw [if_neg q1, if_pos rfl]
          rw [X2 _ (by omega)]
          exact inner
    rw [hc1]
    by_cases q : p + m = n
    · rw [if_pos q, hkk row m lim (by omega) (by omega) (by omega)]
      by_cases r0 : row = 0
      · simp only [if_pos r0]
        by_cases m0 : 0 < m
        · rw [if_pos ⟨by omega, m0⟩, if_neg (by omega), if_pos q]
          rfl
        · rw [if_neg (fun z => m0 z.2), if_pos (by omega), q]
      · simp only [if_neg r0]
        by_cases m0 : m = lim
        · rw [if_pos ⟨by omega, m0⟩, if_neg (by omega), if_pos q]
          rfl
        · rw [if_neg (fun z => m0 z.2), if_pos (by omega), q]
    · rw [if_neg q]
      by_cases q3 : t (p + m) = 59
      · by_cases r0 : row = 0
        · simp only [if_pos r0]
          by_cases m0 : 0 < m
          · rw [if_pos ⟨q3, m0⟩, if_neg (by omega), if_neg q, if_pos q3]
            exact ih (row + 1) m (p + m + 1) N2 (by omega) (by omega) (by omega) (by omega)
          · rw [if_neg (fun z => m0 z.2), if_pos (by omega)]
        · simp only [if_neg r0]
          by_cases m0 : m = lim
          · rw [if_pos ⟨q3, m0⟩, if_neg (by omega), if_neg q, if_pos q3, m0]
            exact ih (row + 1) lim (p + lim + 1) N2 (by omega) (by omega) (by omega) (by omega)
          · rw [if_neg (fun z => m0 z.2), if_pos (by omega)]
      · rw [if_neg (fun z => q3 z.1)]
        simp only [if_neg q, if_neg q3, ite_self]
end
theorem x_fault {S : St} {t : Nat → Int} {n : Nat} (X : TX_ S t n) : m_X1_findFault S = some (iI (prs t n).1, S) := by
  have X' := X
  obtain ⟨hn, X1, X2, X3⟩ := X
  have hk : ∀ row m lim : Nat, row < 100 → m < 100 → lim < 100 → (fun (x1_S7 x2_S7 x3_S7 : Int32) (S7 : St) => if (gI S7 40 0) = 0 then (if (1 : Int32) = 0 then (some ((gI S7 40 0), S7)) else some ((-1 : Int32), S7)) else if x1_S7 < (3 : Int32) then (bnd (m_X1_endsRow x1_S7 x2_S7 x3_S7 S7) fun r9 S8 => if r9 = 0 then (if (0 : Int32) = 0 then (some ((gI S8 40 0), S8)) else some ((-1 : Int32), S8)) else if (1 : Int32) = 0 then (some ((gI S8 40 0), S8)) else some ((-1 : Int32), S8)) else if (0 : Int32) = 0 then (some ((gI S7 40 0), S7)) else some ((-1 : Int32), S7)) (iI row) (iI m) (iI lim) S = if n = 0 then some (-1, S) else some (if row < 3 ∧ (if row = 0 then 0 < m else m = lim) then -1 else iI n, S) := by
    intro row m lim h1 h2 h3
    dsimp only
    rw [X1]
    by_cases q : n = 0
    · rw [eq0_t (by omega), if_neg (by decide), if_pos q]
    · rw [eq0_f (by omega), if_neg q, l3, if_lt (by omega)]
      by_cases r : row < 3
      · rw [if_pos (by omega), x_ends (by omega), bnd_some]
        by_cases e : (if row = 0 then 0 < m else m = lim)
        · rw [if_pos e, if_neg (by decide), if_neg (by decide), if_pos ⟨r, e⟩]
        · rw [if_neg e, if_pos rfl, if_pos rfl, if_neg (fun z => e z.2), X1]
      · rw [if_neg (by omega), if_pos rfl, if_neg (fun z => r z.1)]
  unfold m_X1_findFault prs
  by_cases q : n = 0
  · rw [show (5000 : Nat) = 4999 + 1 from rfl, it4_s]
    unfold b_X1_findFault_9
    rw [X1, show (0 : Int32) = iI 0 from rfl, lt_f (by omega)]
    have := hk 0 0 4 (by omega) (by omega) (by omega)
    rw [if_pos q] at this ⊢
    exact this
  · rw [if_neg q]
    simp only [if_neg q] at hk
    exact x_find X' q hk 3 0 4 0 5000 (by omega) (by omega) (by omega) (by omega)
