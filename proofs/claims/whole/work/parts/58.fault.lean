/-! PURE: the reference's reading of its text -/
def TM (S : St) (t : Nat → Int) (n : Nat) : Prop := n ≤ 20 ∧ gI S 40 0 = iI n ∧ (∀ j, j < 20 → gI S 1 j = iI (t j)) ∧ ∀ j, 0 ≤ t j ∧ t j ≤ 255
theorem TM.fr {S T : St} {t : Nat → Int} {n : Nat} {K : List Nat} (X : TM S t n) (F : Fr K S T) (h : 40 ∉ K ∧ 1 ∉ K) : TM T t n := ⟨X.1, by rw [F.1 _ _ h.1, X.2.1], fun j hj => by rw [F.1 _ _ h.2, X.2.2.1 j hj], X.2.2.2⟩
theorem m_in {S : St} {z a b : Int} (h : -2147483648 ≤ z ∧ z < 2147483648 ∧ -2147483648 ≤ a ∧ a < 2147483648 ∧ -2147483648 ≤ b ∧ b < 2147483648) : m_X7_in (iI z) (iI a) (iI b) S = some (if a ≤ z ∧ z ≤ b then 1 else 0, S) := by
  unfold m_X7_in
  rw [if_lt (by omega), if_lt (by omega)]
  by_cases q : z < a
  · rw [if_pos q, if_neg (by omega)]
  · rw [if_neg q]
    by_cases q2 : b < z
    · rw [if_pos q2, if_neg (by omega)]
    · rw [if_neg q2, if_pos (by omega)]
theorem m_in0 {S : St} {z b : Int} (h : -2147483648 ≤ z ∧ z < 2147483648 ∧ -2147483648 ≤ b ∧ b < 2147483648) : m_X7_in (iI z) 0 (iI b) S = some (if 0 ≤ z ∧ z ≤ b then 1 else 0, S) := m_in (a := 0) (by omega)
theorem m_fig {S : St} {t : Nat → Int} {n : Nat} (X : TM S t n) {p : Nat} (hp : p ≤ 20) : m_X7_figureAt (iI p) S = some (if isF t n p = true then iI (t p - 48) else -1, S) := by
  obtain ⟨hn, X1, X2, X3⟩ := X
  have h3 := X3 p
  unfold m_X7_figureAt
  rw [X1]
  by_cases q : p < n
  · rw [lt_t (by omega), chk_t (by omega), ix_n (by omega), X2 p (by omega), l48, iI_sub, nm_eq, l9, m_in0 (by omega), bnd_some]
    by_cases g : 48 ≤ t p ∧ t p ≤ 57
    · rw [if_pos (show 0 ≤ t p - 48 ∧ t p - 48 ≤ 9 by omega), if_neg (show ¬ (1 : Int32) = 0 by decide), if_pos (show isF t n p = true by simp [isF]; omega)]
    · rw [if_neg (show ¬ (0 ≤ t p - 48 ∧ t p - 48 ≤ 9) by omega), if_pos rfl, if_neg (show ¬ isF t n p = true by simp [isF]; omega)]
  · rw [lt_f (by omega), show m_X7_in (-1 : Int32) (0 : Int32) (9 : Int32) S = some (0, S) from rfl, bnd_some, if_pos rfl, if_neg (by simp [isF]; omega)]
section
variable {t : Nat → Int} {n : Nat} {kk : Int32 → Int32 → Int32 → St → Option (Int32 × St)}
theorem m_scan {row x3 lim : Nat} (hlim : lim = if row = 0 then 4 else x3) (hl : lim ≤ 4 ∧ row < 4) : ∀ (d m p x2 N : Nat) (S : St), TM S t n → lim - m ≤ d → m ≤ lim → p ≤ n → x2 + (lim - m) ≤ 16 → lim - m < N → ∃ T, Fr [2] S T ∧ (∀ i, i < fgs (isF t n) (lim - m) p → gI T 2 (x2 + i) = iI (t (p + i) - 48)) ∧ (∀ c, c < x2 → gI T 2 c = gI S 2 c) ∧ it3 (b_X7_faultNow_50 (iI x3) (iI row) kk) N (iI p) (iI x2) (iI m) S = kk (iI ((p + fgs (isF t n) (lim - m) p : Nat) : Int)) (iI ((x2 + fgs (isF t n) (lim - m) p : Nat) : Int)) (iI ((m + fgs (isF t n) (lim - m) p : Nat) : Int)) T := by
  intro d
  induction d with
  | zero =>
    intro m p x2 N S X h1 h2 h3 h4 h5
    obtain ⟨N, rfl⟩ : ∃ M, N = M + 1 := ⟨N - 1, by omega⟩
    rw [show lim - m = 0 by omega]
    refine ⟨S, Fr.rf, fun i hi => absurd hi (Nat.not_lt_zero _), fun _ _ => rfl, ?_⟩
    rw [it3_s]
    unfold b_X7_faultNow_50
    have hn := X.1
    rw [m_fig X (by omega), bnd_some]
    by_cases q : isF t n p = true
    · rw [if_pos q]
      have := (isF_t q).2
      rw [lm1, eq_f (by omega)]
      by_cases r0 : row = 0
      · rw [eq0_t (by omega), l4, lt_f (by rw [if_pos r0] at hlim; omega)]
        rfl
      · rw [eq0_f (by omega), lt_f (by rw [if_neg r0] at hlim; omega)]
        rfl
    · rw [if_neg q, if_pos rfl]
      rfl
  | succ d ih =>
    intro m p x2 N S X h1 h2 h3 h4 h5
    obtain ⟨N, rfl⟩ : ∃ M, N = M + 1 := ⟨N - 1, by omega⟩
    have hn := X.1
    have stop : (isF t n p = false ∨ m = lim) → b_X7_faultNow_50 (iI x3) (iI row) kk (it3 (b_X7_faultNow_50 (iI x3) (iI row) kk) N) (iI p) (iI x2) (iI m) S = kk (iI p) (iI x2) (iI m) S := by
      intro hs
      unfold b_X7_faultNow_50
      rw [m_fig X (by omega), bnd_some]
      by_cases q : isF t n p = true
      · rw [if_pos q]
        have := (isF_t q).2
        have hm : m = lim := hs.resolve_left (by rw [q]; decide)
        rw [lm1, eq_f (by omega)]
        by_cases r0 : row = 0
        · rw [eq0_t (by omega), l4, lt_f (by rw [if_pos r0] at hlim; omega)]
        · rw [eq0_f (by omega), lt_f (by rw [if_neg r0] at hlim; omega)]
      · rw [if_neg q, if_pos rfl]
    by_cases hm : m = lim
    · rw [show lim - m = 0 by omega]
      exact ⟨S, Fr.rf, fun i hi => absurd hi (Nat.not_lt_zero _), fun _ _ => rfl, by rw [it3_s, stop (Or.inr hm)]; rfl⟩
    · obtain ⟨e, he⟩ : ∃ e, lim - m = e + 1 := ⟨lim - m - 1, by omega⟩
      rw [he, fgs]
      by_cases q : isF t n p = true
      · rw [if_pos q]
        have hq := isF_t q
        have X2 : TM (sI S 2 x2 (iI (t p - 48))) t n := X.fr (Fr.rf.set (K := [2]) (by decide)) (by decide)
        obtain ⟨T, F, A1, A2, A3⟩ := ih (m + 1) (p + 1) (x2 + 1) N _ X2 (by omega) (by omega) (by omega) (by omega) (by omega)
        rw [show lim - (m + 1) = e by omega] at A1 A3
        refine ⟨T, (Fr.rf.set (K := [2]) (by decide)).tr F, fun i hi => ?_, fun c hc => ?_, ?_⟩
        · cases i with
          | zero =>
            rw [Nat.add_zero, Nat.add_zero, A2 x2 (by omega), gI_sI_k, if_pos rfl]
          | succ i =>
            have := A1 i (by omega)
            rw [show x2 + (i + 1) = x2 + 1 + i by omega, show p + (i + 1) = p + 1 + i by omega]
            exact this
        · rw [A2 c (by omega), gI_sI_k, if_neg (by omega)]
        · have step : ∀ rec, b_X7_faultNow_50 (iI x3) (iI row) kk rec (iI p) (iI x2) (iI m) S = rec (iI ((p + 1 : Nat) : Int)) (iI ((x2 + 1 : Nat) : Int)) (iI ((m + 1 : Nat) : Int)) (sI S 2 x2 (iI (t p - 48))) := by
            intro rec
            unfold b_X7_faultNow_50
            rw [m_fig X (by omega), bnd_some, if_pos q, lm1, eq_f (by omega)]
            by_cases r0 : row = 0
            · rw [eq0_t (by omega), l4, lt_t (by rw [if_pos r0] at hlim; omega), m_fig X (by omega), bnd_some, if_pos q, chk_t (by omega), ix_n (by omega), nm_eq, l1, iI_add, iI_add, iI_add]
              rfl
            · rw [eq0_f (by omega), lt_t (by rw [if_neg r0] at hlim; omega), m_fig X (by omega), bnd_some, if_pos q, chk_t (by omega), ix_n (by omega), nm_eq, l1, iI_add, iI_add, iI_add]
              rfl
          rw [it3_s, step, A3, show m + 1 + fgs (isF t n) e (p + 1) = m + (fgs (isF t n) e (p + 1) + 1) by omega, show p + 1 + fgs (isF t n) e (p + 1) = p + (fgs (isF t n) e (p + 1) + 1) by omega, show x2 + 1 + fgs (isF t n) e (p + 1) = x2 + (fgs (isF t n) e (p + 1) + 1) by omega]
      · rw [if_neg q]
        exact ⟨S, Fr.rf, fun i hi => absurd hi (Nat.not_lt_zero _), fun _ _ => rfl, by rw [it3_s, stop (Or.inl (by simpa using q))]; rfl⟩
end
/-- what the reference knows of its text behind faultNow -/
def Lm (S : St) (t : Nat → Int) (f : Int × Nat × Nat) : Prop := gI S 41 0 = iI ((f.2.1 * f.2.2 : Nat) : Int) ∧ gI S 42 0 = iI f.2.1 ∧ gI S 43 0 = iI f.2.2 ∧ ∀ c, c < f.2.1 * f.2.2 → gI S 2 c = iI (hg t f.2.1 c)
theorem m_rows {t : Nat → Int} {n : Nat} {kk : St → Option (Int32 × St)} : ∀ (k row first p cells N : Nat) (S : St), TM S t n → row + k = 3 → (row = 0 → p = 0 ∧ cells = 0 ∧ first = 0) → (row ≠ 0 → 1 ≤ first ∧ first ≤ 4 ∧ p = row * (first + 1) ∧ cells = first * row ∧ ∀ c, c < cells → gI S 2 c = iI (hg t first c)) → p ≤ n → k < N → gI S 41 0 = iI 0 → gI S 42 0 = iI 0 → gI S 43 0 = iI 0 → ∃ T, it4 (b_X7_faultNow_33 kk) N (iI p) (iI cells) (iI first) (iI row) S = some (iI (par t n k row (if row = 0 then 4 else first) p).1, T) ∧ Fr [2, 41, 42, 43] S T ∧ Lm T t (par t n k row (if row = 0 then 4 else first) p) := by
  intro k
  induction k with
  | zero =>
    intro row first p cells N S X h1 h2 h3 h4 h5 z1 z2 z3
    obtain ⟨N, rfl⟩ : ∃ M, N = M + 1 := ⟨N - 1, by omega⟩
    rw [it4_s]
    unfold b_X7_faultNow_33
    rw [l4, lt_t (by omega), l3, eq_t (by omega)]
    exact ⟨S, rfl, Fr.rf, z1, z2, z3, fun c hc => absurd hc (by simp [par])⟩
  | succ k ih =>
    intro row first p cells N S X h1 h2 h3 h4 h5 z1 z2 z3
    obtain ⟨N, rfl⟩ : ∃ M, N = M + 1 := ⟨N - 1, by omega⟩
    have hn := X.1
    have hX := X.2.2.1
    have hlim : (if row = 0 then 4 else first) ≤ 4 ∧ 1 ≤ (if row = 0 then 4 else first) := by
      split
      · omega
      · have := h3 (by assumption); omega
    have hcel : cells + (if row = 0 then 4 else first) ≤ 12 := by
      split
      · have := h2 (by assumption); omega
      · obtain ⟨a1, a2, a3, a4, -⟩ := h3 (by assumption)
        have : first * row ≤ first * 2 := Nat.mul_le_mul_left _ (by omega)
        omega
    rw [it4_s]
    have hle := fgs_le (isF t n) (if row = 0 then 4 else first) p
    have hin := fgs_in (isF t n) (if row = 0 then 4 else first) p
    unfold par
    -- the row's figures
    have hsc := fun kk => m_scan (t := t) (n := n) (kk := kk) (row := row) (x3 := first) (lim := if row = 0 then 4 else first) rfl ⟨hlim.1, by omega⟩ 4 0 p cells 5000 S X (by omega) (by omega) h4 (by omega) (by omega)
    simp only [Nat.sub_zero, Nat.zero_add] at hsc
    have hW : ∀ m : Nat, (if row = 0 then m else if row = 0 then 4 else first) = if row = 0 then m else first := fun m => by split <;> rfl
    simp only [hW]
    generalize hgm : fgs (isF t n) (if row = 0 then 4 else first) p = m at *
    have hpm : p + m ≤ n := by
      cases m with
      | zero => omega
      | succ m => have := (isF_t (hin m (by omega))).1; omega
    -- the heights that are known behind the row
    have hts : ∀ (T : St), Fr [2] S T → (∀ i, i < m → gI T 2 (cells + i) = iI (t (p + i) - 48)) → (∀ c, c < cells → gI T 2 c = gI S 2 c) → (m = 0 ∨ m < (if row = 0 then m else first)) ∨ ∀ c, c < (if row = 0 then m else first) * (row + 1) → gI T 2 c = iI (hg t (if row = 0 then m else first) c) := by
      intro T F A1 A2
      by_cases q : m = 0 ∨ m < (if row = 0 then m else first)
      · exact Or.inl q
      · refine Or.inr (fun c hc => ?_)
        by_cases r0 : row = 0
        · rw [if_pos r0] at hc ⊢
          obtain ⟨b1, b2, b3⟩ := h2 r0
          subst r0
          have := A1 c (by omega)
          rw [b1, b2, Nat.zero_add] at this
          rw [this]
          unfold hg
          rw [Nat.div_eq_of_lt (by omega), Nat.add_zero]
        · rw [if_neg r0] at hc q hle ⊢
          obtain ⟨a1, a2, a3, a4, a5⟩ := h3 r0
          have em : m = first := by omega
          by_cases g : c < cells
          · rw [A2 c g, a5 c g]
          · obtain ⟨d, rfl⟩ : ∃ d, c = cells + d := ⟨c - cells, by omega⟩
            have hd : d < first := by
              rw [Nat.mul_succ] at hc
              omega
            rw [A1 d (by omega)]
            unfold hg
            have e1 : (cells + d) / first = row := by
              rw [a4, Nat.add_comm, Nat.add_mul_div_left _ _ (by omega), Nat.div_eq_of_lt hd, Nat.zero_add]
            rw [e1, a3, a4]
            congr 3
            rw [Nat.mul_succ, Nat.mul_comm row first]
            omega
    generalize hrec : it4 (b_X7_faultNow_33 kk) N = rec
    unfold b_X7_faultNow_33
    rw [l4, lt_t (by omega), l3, eq_f (by omega)]
    obtain ⟨T, F, A1, A2, A3⟩ := hsc (fun (x1_S12 x2_S12 x5_S12 : Int32) (S12 : St) => if iI row = 0 then (if x5_S12 = 0 then (some (x1_S12, S12)) else if x5_S12 < x5_S12 then (some (x1_S12, S12)) else if x1_S12 = (gI S12 40 0) then (nm (sI S12 41 0 x2_S12) fun S16 => nm (sI S16 42 0 x5_S12) fun S17 => nm (sI S17 43 0 (iI row + (1 : Int32))) fun S18 => some ((-1 : Int32), S18)) else chk x1_S12 20 <| if (gI S12 1 (ix x1_S12)) = (59 : Int32) then (rec (x1_S12 + 1) x2_S12 x5_S12 (iI row + 1) S12) else some (x1_S12, S12)) else if x5_S12 = 0 then (some (x1_S12, S12)) else if x5_S12 < iI first then (some (x1_S12, S12)) else if x1_S12 = (gI S12 40 0) then (nm (sI S12 41 0 x2_S12) fun S13 => nm (sI S13 42 0 (iI first)) fun S14 => nm (sI S14 43 0 (iI row + (1 : Int32))) fun S15 => some ((-1 : Int32), S15)) else chk x1_S12 20 <| if (gI S12 1 (ix x1_S12)) = (59 : Int32) then (rec (x1_S12 + 1) x2_S12 (iI first) (iI row + 1) S12) else some (x1_S12, S12))
    have XT := X.fr F (by decide)
    have hF4 : Fr [2, 41, 42, 43] S T := F.mono (by decide)
    have hh := hts T F A1 A2
    have A4 : it3 (b_X7_faultNow_50 (iI first) (iI row) _) 5000 (iI p) (iI cells) (0 : Int32) S = _ := A3
    rw [A4]
    have e40 := XT.2.1
    have htl := XT.2.2.2 (p + m)
    have bad : ∀ (w : Nat), some (iI ((p + m : Nat) : Int), T) = some (iI (((p + m : Nat) : Int), 0, 0).1, T) ∧ Fr [2, 41, 42, 43] S T ∧ Lm T t (((p + m : Nat) : Int), 0, 0) := fun w => ⟨rfl, hF4, by rw [F.1 _ _ (by decide)]; exact z1, by rw [F.1 _ _ (by decide)]; exact z2, by rw [F.1 _ _ (by decide)]; exact z3, fun c hc => absurd hc (by simp)⟩
    by_cases r0 : row = 0
    · obtain ⟨b1, b2, b3⟩ := h2 r0
      rw [eq0_t (by omega)]
      simp only [if_pos r0] at hh ⊢
      by_cases m0 : m = 0
      · rw [eq0_t (by omega), if_pos (Or.inl m0)]
        exact ⟨T, bad 0⟩
      · rw [eq0_f (by omega), lt_f (by omega), if_neg (show ¬ (m = 0 ∨ m < m) by omega), e40]
        have hh := hh.resolve_left (by omega)
        by_cases q2 : p + m = n
        · rw [eq_t (by omega), if_pos q2, nm_eq, nm_eq, nm_eq, l1, iI_add]
          refine ⟨_, rfl, ((hF4.set (by decide)).set (by decide)).set (by decide), ?_, ?_, ?_, fun c hc => ?_⟩
          · rw [gI_sI_n (by decide), gI_sI_n (by decide), gI_sI_k, if_pos rfl]
            dsimp only
            rw [b2, r0]
            congr 2
          · rw [gI_sI_n (by decide), gI_sI_k, if_pos rfl]
          · rw [gI_sI_k, if_pos rfl]
            rfl
          · rw [gI_sI_n (by decide), gI_sI_n (by decide), gI_sI_n (by decide)]
            exact hh c hc
        · rw [eq_f (by omega), if_neg q2, chk_t (by omega), ix_n (by omega), XT.2.2.1 _ (by omega), l59, if_eq (by omega)]
          by_cases q3 : t (p + m) = 59
          · rw [if_pos q3, if_pos q3]
            have := ih (row + 1) m (p + m + 1) (cells + m) N T XT (by omega) (fun z => by omega) (fun _ => ⟨by omega, by rw [if_pos r0] at hle; exact hle, by subst r0; omega, by subst r0; omega, fun c hc => hh c (by subst r0; omega)⟩) (by omega) (by omega) (by rw [F.1 _ _ (by decide)]; exact z1) (by rw [F.1 _ _ (by decide)]; exact z2) (by rw [F.1 _ _ (by decide)]; exact z3)
            rw [if_neg (by omega)] at this
            obtain ⟨U, u1, u2, u3⟩ := this
            refine ⟨U, ?_, hF4.tr u2, u3⟩
            rw [← hrec, l1, iI_add, iI_add]
            exact u1
          · rw [if_neg q3, if_neg q3]
            exact ⟨T, bad 0⟩
    · obtain ⟨a1, a2, a3, a4, a5⟩ := h3 r0
      rw [eq0_f (by omega)]
      simp only [if_neg r0] at hh hle ⊢
      by_cases m0 : m = 0
      · rw [eq0_t (by omega), if_pos (Or.inl m0)]
        exact ⟨T, bad 0⟩
      · rw [eq0_f (by omega)]
        by_cases ml : m < first
        · rw [lt_t (by omega), if_pos (Or.inr ml)]
          exact ⟨T, bad 0⟩
        · rw [lt_f (by omega), if_neg (show ¬ (m = 0 ∨ m < first) by omega), e40]
          have em : m = first := by omega
          have hh := hh.resolve_left (by omega)
          have ec : cells + m = first * (row + 1) := by rw [Nat.mul_succ]; omega
          by_cases q2 : p + m = n
          · rw [eq_t (by omega), if_pos q2, nm_eq, nm_eq, nm_eq, l1, iI_add]
            refine ⟨_, rfl, ((hF4.set (by decide)).set (by decide)).set (by decide), ?_, ?_, ?_, fun c hc => ?_⟩
            · rw [gI_sI_n (by decide), gI_sI_n (by decide), gI_sI_k, if_pos rfl, ec]
            · rw [gI_sI_n (by decide), gI_sI_k, if_pos rfl]
            · rw [gI_sI_k, if_pos rfl]
              rfl
            · rw [gI_sI_n (by decide), gI_sI_n (by decide), gI_sI_n (by decide)]
              exact hh c hc
          · rw [eq_f (by omega), if_neg q2, chk_t (by omega), ix_n (by omega), XT.2.2.1 _ (by omega), l59, if_eq (by omega)]
            by_cases q3 : t (p + m) = 59
            · rw [if_pos q3, if_pos q3]
              have := ih (row + 1) first (p + m + 1) (cells + m) N T XT (by omega) (fun z => by omega) (fun _ => ⟨a1, a2, by rw [a3, em, Nat.succ_mul]; omega, ec, fun c hc => hh c (by omega)⟩) (by omega) (by omega) (by rw [F.1 _ _ (by decide)]; exact z1) (by rw [F.1 _ _ (by decide)]; exact z2) (by rw [F.1 _ _ (by decide)]; exact z3)
              rw [if_neg (by omega)] at this
              obtain ⟨U, u1, u2, u3⟩ := this
              refine ⟨U, ?_, hF4.tr u2, u3⟩
              rw [← hrec, l1, iI_add, iI_add]
              exact u1
            · rw [if_neg q3, if_neg q3]
              exact ⟨T, bad 0⟩
theorem m_fault {S : St} {t : Nat → Int} {n : Nat} (X : TM S t n) : ∃ T, m_X7_faultNow S = some (iI (ft t n), T) ∧ Fr [2, 41, 42, 43] S T ∧ Lm T t (prs t n) := by
  unfold m_X7_faultNow
  rw [nm_eq, nm_eq, nm_eq]
  have F3 : Fr [2, 41, 42, 43] S (sI (sI (sI S 41 0 0) 42 0 0) 43 0 0) := ((Fr.rf.set (by decide)).set (by decide)).set (by decide)
  have XU := X.fr F3 (by decide)
  have e43 : gI (sI (sI (sI S 41 0 0) 42 0 0) 43 0 0) 43 0 = iI 0 := by rw [gI_sI_k, if_pos rfl]; rfl
  have e42 : gI (sI (sI (sI S 41 0 0) 42 0 0) 43 0 0) 42 0 = iI 0 := by rw [gI_sI_n (by decide), gI_sI_k, if_pos rfl]; rfl
  have e41 : gI (sI (sI (sI S 41 0 0) 42 0 0) 43 0 0) 41 0 = iI 0 := by rw [gI_sI_n (by decide), gI_sI_n (by decide), gI_sI_k, if_pos rfl]; rfl
  generalize sI (sI (sI S 41 0 0) 42 0 0) 43 0 0 = U at *
  rw [XU.2.1]
  have hn := XU.1
  by_cases q : n = 0
  · rw [eq0_t (by omega)]
    refine ⟨U, ?_, F3, ?_⟩
    · unfold ft prs
      rw [if_pos q]
      rfl
    · unfold prs
      rw [if_pos q]
      exact ⟨e41, e42, e43, fun c hc => absurd hc (by simp)⟩
  · rw [eq0_f (by omega)]
    obtain ⟨T, u1, u2, u3⟩ := m_rows (t := t) (n := n) (kk := fun S19 => some ((-1 : Int32), S19)) 3 0 0 0 0 5000 U XU (by omega) (fun _ => ⟨rfl, rfl, rfl⟩) (fun z => absurd rfl z) (by omega) (by omega) e41 e42 e43
    rw [if_pos rfl] at u1 u3
    have e : prs t n = par t n 3 0 4 0 := by unfold prs; rw [if_neg q]
    unfold ft
    rw [e]
    exact ⟨T, u1, F3.tr u2, u3⟩
