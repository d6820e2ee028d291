/-! PURE: the cells out of the text, on both sides -/
def hg (t : Nat → Int) (w c : Nat) : Int := t (c + c / w) - 48
/-- what a text tells: the fault, the width, the rows -/
def ft (t : Nat → Int) (n : Nat) : Int := (prs t n).1
def wd (t : Nat → Int) (n : Nat) : Nat := (prs t n).2.1
def rw_ (t : Nat → Int) (n : Nat) : Nat := (prs t n).2.2
theorem prs_cases (t : Nat → Int) (n : Nat) : (0 ≤ ft t n ∧ wd t n = 0 ∧ rw_ t n = 0) ∨ (n = 0 ∧ ft t n = -1 ∧ wd t n = 0 ∧ rw_ t n = 0) ∨ (ft t n = -1 ∧ 1 ≤ wd t n ∧ wd t n ≤ 4 ∧ 1 ≤ rw_ t n ∧ rw_ t n ≤ 3 ∧ n + 1 = rw_ t n * (wd t n + 1) ∧ Pat t (wd t n) n) := by
  unfold ft wd rw_
  rcases prs_ok t n with ⟨f, h⟩ | ⟨h0, h⟩ | ⟨w, r, h, h1, h2, h3, h4, h5, h6⟩
  · rw [h]; exact Or.inl ⟨by simp, rfl, rfl⟩
  · rw [h]; exact Or.inr (Or.inl ⟨h0, rfl, rfl, rfl⟩)
  · rw [h]; exact Or.inr (Or.inr ⟨rfl, h1, h2, h3, h4, h5, h6⟩)
theorem par_bd {t : Nat → Int} {n : Nat} : ∀ k row lim p, row + k ≤ 3 → lim ≤ 4 → p ≤ n → -1 ≤ (par t n k row lim p).1 ∧ (par t n k row lim p).1 ≤ n := by
  intro k
  induction k with
  | zero => intro row lim p _ _ h; unfold par; dsimp only; omega
  | succ k ih =>
    intro row lim p h1 h2 h3
    unfold par
    have hin := fgs_in (isF t n) lim p
    have hle := fgs_le (isF t n) lim p
    generalize fgs (isF t n) lim p = m at *
    have hpm : p + m ≤ n := by
      cases m with
      | zero => omega
      | succ m => have := (isF_t (hin m (by omega))).1; omega
    have hW : (if row = 0 then m else lim) ≤ 4 := by split <;> omega
    generalize (if row = 0 then m else lim) = W at *
    by_cases q1 : m = 0 ∨ m < W
    · rw [if_pos q1]; dsimp only; omega
    · rw [if_neg q1]
      by_cases q2 : p + m = n
      · rw [if_pos q2]; dsimp only; omega
      · rw [if_neg q2]
        by_cases q3 : t (p + m) = 59
        · rw [if_pos q3]; exact ih (row + 1) W (p + m + 1) (by omega) hW (by omega)
        · rw [if_neg q3]; dsimp only; omega
theorem ft_bd {t : Nat → Int} {n : Nat} (hn : n ≤ 20) : -1 ≤ ft t n ∧ ft t n ≤ 20 := by
  unfold ft prs
  split
  · dsimp only; omega
  · have := par_bd (t := t) (n := n) 3 0 4 0 (by omega) (by omega) (by omega)
    omega
theorem x_lay {S : St} {t : Nat → Int} {n w r : Nat} (X : TX_ S t n) (hw : 1 ≤ w ∧ w ≤ 4) (hr : 1 ≤ r ∧ r ≤ 3) (hnr : n + 1 = r * (w + 1)) (hP : Pat t w n) (h0 : gI S 43 0 = iI 0) : ∃ T, m_X1_layCells S = some T ∧ Fr [41, 42, 43, 8, 9] S T ∧ gI T 43 0 = iI ((w * r : Nat) : Int) ∧ gI T 42 0 = iI w ∧ gI T 41 0 = iI r ∧ ∀ c, c < w * r → gI T 8 c = iI (hg t w c) ∧ gI T 9 c = iI ((c % w : Nat) : Int) := by
  obtain ⟨hn, X1, X2, X3⟩ := X
  have hw4 : w = 1 ∨ w = 2 ∨ w = 3 ∨ w = 4 := by omega
  unfold m_X1_layCells
  rw [nm_eq]
  refine it2_inv (fun p x y T => x = iI ((p % (w + 1) : Nat) : Int) ∧ y = iI (p : Int) ∧ Fr [41, 42, 43, 8, 9] S T ∧ gI T 43 0 = iI ((p - p / (w + 1) : Nat) : Int) ∧ gI T 41 0 = iI ((1 + p / (w + 1) : Nat) : Int) ∧ ∀ c, c < p - p / (w + 1) → gI T 8 c = iI (hg t w c) ∧ gI T 9 c = iI ((c % w : Nat) : Int)) n (fun o => ∃ T, o = some T ∧ Fr [41, 42, 43, 8, 9] S T ∧ gI T 43 0 = iI ((w * r : Nat) : Int) ∧ gI T 42 0 = iI w ∧ gI T 41 0 = iI r ∧ ∀ c, c < w * r → gI T 8 c = iI (hg t w c) ∧ gI T 9 c = iI ((c % w : Nat) : Int)) ?_ ?_ 5000 0 _ _ _ (Nat.zero_le _) (by omega) ?_
  · rintro p x y T hp ⟨rfl, rfl, F, A1, A2, A3⟩ rec
    have e40 : gI T 40 0 = iI n := by rw [F.1 _ _ (by decide), X1]
    have e7 : gI T 7 p = iI (t p) := by rw [F.1 _ _ (by decide), X2 p (by omega)]
    have hpat := hP p hp
    have htb := X3 p
    have hq : p / (w + 1) ≤ p := Nat.div_le_self _ _
    have hmd : p % (w + 1) < w + 1 := Nat.mod_lt _ (by omega)
    by_cases q : p % (w + 1) = w
    · rw [if_pos q] at hpat
      have n1 : (p + 1) % (w + 1) = 0 := by rcases hw4 with rfl | rfl | rfl | rfl <;> omega
      have n2 : p + 1 - (p + 1) / (w + 1) = p - p / (w + 1) := by rcases hw4 with rfl | rfl | rfl | rfl <;> omega
      have n3 : 1 + (p + 1) / (w + 1) = 1 + p / (w + 1) + 1 := by rcases hw4 with rfl | rfl | rfl | rfl <;> omega
      refine ⟨iI 0, iI ((p + 1 : Nat) : Int), sI T 41 0 (iI ((1 + p / (w + 1) + 1 : Nat) : Int)), ⟨by rw [n1]; rfl, rfl, F.set (by decide), ?_, ?_, fun c hc => ?_⟩, ?_⟩
      · rw [gI_sI_n (by decide), n2, A1]
      · rw [gI_sI_k, if_pos rfl, n3]
      · rw [gI_sI_n (by decide), gI_sI_n (by decide)]
        exact A3 c (by omega)
      · unfold b_X1_layCells_9
        rw [e40, lt_t (by omega), chk_t (by omega), ix_n (by omega), e7, l59, eq_t hpat, A2, l1, iI_add, nm_eq, iI_add]
        rfl
    · rw [if_neg q] at hpat
      have n1 : (p + 1) % (w + 1) = p % (w + 1) + 1 := by rcases hw4 with rfl | rfl | rfl | rfl <;> omega
      have n2 : p + 1 - (p + 1) / (w + 1) = p - p / (w + 1) + 1 := by rcases hw4 with rfl | rfl | rfl | rfl <;> omega
      have n3 : 1 + (p + 1) / (w + 1) = 1 + p / (w + 1) := by rcases hw4 with rfl | rfl | rfl | rfl <;> omega
      have n4 : p - p / (w + 1) < 12 := by
        have : n ≤ 3 * (w + 1) - 1 := by
          have : r * (w + 1) ≤ 3 * (w + 1) := Nat.mul_le_mul_right _ hr.2
          omega
        rcases hw4 with rfl | rfl | rfl | rfl <;> omega
      have n5 : (p - p / (w + 1)) + (p - p / (w + 1)) / w = p := by rcases hw4 with rfl | rfl | rfl | rfl <;> omega
      have n6 : (p - p / (w + 1)) % w = p % (w + 1) := by rcases hw4 with rfl | rfl | rfl | rfl <;> omega
      refine ⟨iI ((p % (w + 1) + 1 : Nat) : Int), iI ((p + 1 : Nat) : Int), sI (sI (sI T 8 (p - p / (w + 1)) (iI (t p - 48))) 9 (p - p / (w + 1)) (iI ((p % (w + 1) : Nat) : Int))) 43 0 (iI ((p - p / (w + 1) + 1 : Nat) : Int)), ⟨by rw [n1], rfl, ((F.set (by decide)).set (by decide)).set (by decide), ?_, ?_, fun c hc => ?_⟩, ?_⟩
      · rw [gI_sI_k, if_pos rfl, n2]
      · rw [gI_sI_n (by decide), gI_sI_n (by decide), gI_sI_n (by decide), A2, n3]
      · rw [gI_sI_n (by decide), gI_sI_n (by decide), gI_sI_k, gI_sI_n (by decide), gI_sI_k, gI_sI_n (by decide)]
        by_cases e : c = p - p / (w + 1)
        · rw [if_pos e, if_pos e, e]
          unfold hg
          rw [n5, n6]
          exact ⟨rfl, rfl⟩
        · rw [if_neg e, if_neg e]
          exact A3 c (by omega)
      · unfold b_X1_layCells_9
        rw [e40, lt_t (by omega), chk_t (by omega), ix_n (by omega), e7, l59, eq_f (by omega), A1, l12, lt_t (by omega), chk_t (by omega), chk_t (by omega), ix_n (by omega), l48, iI_sub, nm_eq, gI_sI_n (by decide), A1, chk_t (by omega), ix_n (by omega), nm_eq, gI_sI_n (by decide), gI_sI_n (by decide), A1, l1, iI_add, nm_eq, iI_add, iI_add]
        rfl
  · rintro x y T ⟨rfl, rfl, F, A1, A2, A3⟩ rec
    have e40 : gI T 40 0 = iI n := by rw [F.1 _ _ (by decide), X1]
    have n1 : n % (w + 1) = w := by
      have : n = (r - 1) * (w + 1) + w := by
        have : r * (w + 1) = (r - 1) * (w + 1) + (w + 1) := by
          rw [← Nat.succ_mul]
          congr 1
          omega
        omega
      rw [this, Nat.add_comm, Nat.add_mul_mod_self_right, Nat.mod_eq_of_lt (by omega)]
    have n2 : n / (w + 1) = r - 1 := by
      have : n = (r - 1) * (w + 1) + w := by
        have : r * (w + 1) = (r - 1) * (w + 1) + (w + 1) := by
          rw [← Nat.succ_mul]
          congr 1
          omega
        omega
      rw [this, Nat.add_comm, Nat.add_mul_div_right _ _ (by omega), Nat.div_eq_of_lt (by omega)]
      omega
    have n3 : n - n / (w + 1) = w * r := by
      rw [n2]
      have : r * (w + 1) = w * r + r := by rw [Nat.mul_succ, Nat.mul_comm]
      omega
    rw [n3] at A1 A3
    unfold b_X1_layCells_9
    rw [e40, lt_f (by omega)]
    dsimp only
    rw [nm_eq]
    refine ⟨_, rfl, F.set (by decide), ?_, ?_, ?_, fun c hc => ?_⟩
    · rw [gI_sI_n (by decide), A1]
    · rw [gI_sI_k, if_pos rfl, n1]
    · rw [gI_sI_n (by decide), A2, n2]
      congr 2
      omega
    · rw [gI_sI_n (by decide), gI_sI_n (by decide)]
      exact A3 c hc
  · refine ⟨by rw [Nat.zero_mod]; rfl, rfl, Fr.rf.set (by decide), ?_, ?_, fun c hc => ?_⟩
    · rw [gI_sI_n (by decide), h0, Nat.zero_div]
      rfl
    · rw [gI_sI_k, if_pos rfl, Nat.zero_div]
      rfl
    · rw [Nat.zero_div] at hc
      omega
/-- what the class knows of its text -/
def Lx (S : St) (t : Nat → Int) (n : Nat) : Prop := gI S 44 0 = iI (ft t n) ∧ gI S 43 0 = iI ((wd t n * rw_ t n : Nat) : Int) ∧ gI S 42 0 = iI (wd t n) ∧ gI S 41 0 = iI (rw_ t n) ∧ ∀ c, c < wd t n * rw_ t n → gI S 8 c = iI (hg t (wd t n) c) ∧ gI S 9 c = iI ((c % wd t n : Nat) : Int)
theorem x_survey {S : St} {t : Nat → Int} {n : Nat} (X : TX_ S t n) : ∃ T, m_X1_survey S = some T ∧ Fr [41, 42, 43, 44, 8, 9] S T ∧ Lx T t n := by
  obtain ⟨hn, X1, X2, X3⟩ := id X
  have hft := ft_bd (t := t) hn
  unfold m_X1_survey
  rw [nm_eq, nm_eq, nm_eq]
  have F3 : Fr [41, 42, 43, 44, 8, 9] S (sI (sI (sI S 41 0 0) 42 0 0) 43 0 0) := ((Fr.rf.set (by decide)).set (by decide)).set (by decide)
  have X3' : TX_ (sI (sI (sI S 41 0 0) 42 0 0) 43 0 0) t n := ⟨hn, by rw [F3.1 _ _ (by decide), X1], fun j hj => by rw [F3.1 _ _ (by decide), X2 j hj], X3⟩
  rw [x_fault X3', bnd_some, nm_eq]
  have F4 : Fr [41, 42, 43, 44, 8, 9] S (sI (sI (sI (sI S 41 0 0) 42 0 0) 43 0 0) 44 0 (iI (prs t n).1)) := F3.set (by decide)
  have e44 : gI (sI (sI (sI (sI S 41 0 0) 42 0 0) 43 0 0) 44 0 (iI (prs t n).1)) 44 0 = iI (ft t n) := by rw [gI_sI_k, if_pos rfl]; rfl
  have e43 : gI (sI (sI (sI (sI S 41 0 0) 42 0 0) 43 0 0) 44 0 (iI (prs t n).1)) 43 0 = iI 0 := by rw [gI_sI_n (by decide), gI_sI_k, if_pos rfl]; rfl
  have e42 : gI (sI (sI (sI (sI S 41 0 0) 42 0 0) 43 0 0) 44 0 (iI (prs t n).1)) 42 0 = iI 0 := by rw [gI_sI_n (by decide), gI_sI_n (by decide), gI_sI_k, if_pos rfl]; rfl
  have e41 : gI (sI (sI (sI (sI S 41 0 0) 42 0 0) 43 0 0) 44 0 (iI (prs t n).1)) 41 0 = iI 0 := by rw [gI_sI_n (by decide), gI_sI_n (by decide), gI_sI_n (by decide), gI_sI_k, if_pos rfl]; rfl
  have e40 : gI (sI (sI (sI (sI S 41 0 0) 42 0 0) 43 0 0) 44 0 (iI (prs t n).1)) 40 0 = iI n := by rw [F4.1 _ _ (by decide), X1]
  generalize sI (sI (sI (sI S 41 0 0) 42 0 0) 43 0 0) 44 0 (iI (prs t n).1) = U at *
  rw [e44, lm1, e40]
  rcases prs_cases t n with ⟨h1, h2, h3⟩ | ⟨h0, h1, h2, h3⟩ | ⟨h1, h2, h3, h4, h5, h6, h7⟩
  · rw [eq_f (by omega)]
    exact ⟨U, rfl, F4, e44, by rw [h2, h3]; exact e43, by rw [h2]; exact e42, by rw [h3]; exact e41, fun c hc => by rw [h2] at hc; omega⟩
  · rw [eq_t h1, gt0_f (by omega)]
    exact ⟨U, rfl, F4, e44, by rw [h2, h3]; exact e43, by rw [h2]; exact e42, by rw [h3]; exact e41, fun c hc => by rw [h2] at hc; omega⟩
  · have hn0 : 0 < n := by
      have : 1 * (1 + 1) ≤ rw_ t n * (wd t n + 1) := Nat.mul_le_mul h4 (by omega)
      omega
    rw [eq_t h1, gt0_t (by omega)]
    have XU : TX_ U t n := ⟨hn, e40, fun j hj => by rw [F4.1 _ _ (by decide), X2 j hj], X3⟩
    obtain ⟨T, g1, g2, g3, g4, g5, g6⟩ := x_lay XU ⟨h2, h3⟩ ⟨h4, h5⟩ h6 h7 e43
    rw [g1, bndV_some]
    refine ⟨T, rfl, F4.tr (g2.mono (by decide)), ?_, g3, g4, g5, g6⟩
    rw [g2.1 _ _ (by decide), e44]
