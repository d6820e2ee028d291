/-! PURE: the sun, over a ground of rows w wide, heights h, what stands st, days dy -/
def oth (c d : Nat) (g : Bool) : Nat := if g then c + d else c - d
def rch (w c : Nat) (g : Bool) : Nat := if g then w - 1 - c % w else c % w
def rs (h st : Nat → Int) (c o : Nat) : Int := h o + st o - h c
def exd (w : Nat) (h st : Nat → Int) (c : Nat) (g : Bool) (k : Nat) : Bool := (List.range (rch w c g)).any (fun e => decide ((((e + 1) * k : Nat) : Int) < rs h st c (oth c (e + 1) g)))
def b2n (b : Bool) : Nat := if b then 1 else 0
def dk (w : Nat) (h st : Nat → Int) (c s : Nat) (g : Bool) : Nat := b2n (exd w h st c g ((s + 1) * 1)) + b2n (exd w h st c g ((s + 1) * 2)) + b2n (exd w h st c g ((s + 1) * 3)) + b2n (exd w h st c g ((s + 1) * 4)) + b2n (exd w h st c g ((s + 1) * 5)) + b2n (exd w h st c g ((s + 1) * 6))
/-- the ground's numbers are in their ranges -/
def Gr (w N : Nat) (h st dy : Nat → Int) : Prop := (1 ≤ w ∧ w ≤ 4 ∧ N ≤ 12 ∧ ∃ r, N = w * r) ∧ (∀ c, 0 ≤ h c ∧ h c ≤ 9) ∧ (∀ c, 0 ≤ st c ∧ st c ≤ 20) ∧ (∀ s, 0 ≤ dy s ∧ dy s ≤ 99)
/-- the class's view of the ground -/
def GX (S : St) (w N : Nat) (h st dy : Nat → Int) : Prop := gI S 42 0 = iI w ∧ gI S 43 0 = iI N ∧ (∀ c, c < N → gI S 8 c = iI (h c)) ∧ (∀ c, c < N → gI S 9 c = iI ((c % w : Nat) : Int)) ∧ (∀ c, c < 12 → gI S 10 c = iI (st c)) ∧ (∀ s, s < 4 → gI S 11 s = iI (dy s))
theorem Gr.w4 {w N : Nat} {h st dy : Nat → Int} (G : Gr w N h st dy) : (w = 1 ∨ w = 2 ∨ w = 3 ∨ w = 4) ∧ N ≤ 12 := by
  obtain ⟨⟨h1, h2, h3, -⟩, -⟩ := G
  omega
theorem Gr.in_row {w N : Nat} {h st dy : Nat → Int} (G : Gr w N h st dy) {c d : Nat} {g : Bool} (hc : c < N) (hd : d ≤ rch w c g) : oth c d g < N ∧ (g = false → d ≤ c) := by
  obtain ⟨⟨h1, h2, h3, r, hr⟩, -⟩ := G
  unfold rch at hd
  unfold oth
  have hw : w = 1 ∨ w = 2 ∨ w = 3 ∨ w = 4 := by omega
  cases g
  · simp only [Bool.false_eq_true, if_false] at hd ⊢
    have := Nat.mod_le c w
    omega
  · simp only [if_true] at hd ⊢
    rcases hw with rfl | rfl | rfl | rfl <;> simp <;> omega
theorem rch_le {w : Nat} (hw : 1 ≤ w ∧ w ≤ 4) (c : Nat) (g : Bool) : rch w c g ≤ 3 := by
  unfold rch
  have := Nat.mod_lt c (show w > 0 by omega)
  cases g <;> simp <;> omega
def sd (g : Bool) : Int := if g then 1 else -1
theorem oth_int {c d : Nat} {g : Bool} (h : g = false → d ≤ c) : (c : Int) + sd g * d = (oth c d g : Nat) := by
  unfold oth sd
  cases g
  · have := h rfl
    simp only [Bool.false_eq_true, if_false]
    omega
  · simp only [if_true]
    omega
theorem x_reach {S : St} {w N : Nat} {h st dy : Nat → Int} (G : Gr w N h st dy) (X : GX S w N h st dy) {c : Nat} (hc : c < N) (g : Bool) : m_X5_reachOf (iI c) (iI (sd g)) S = some (iI (rch w c g : Nat), S) := by
  obtain ⟨hw, hN⟩ := G.w4
  obtain ⟨X1, X2, X3, X4, X5, X6⟩ := X
  unfold m_X5_reachOf
  rw [chk_t (by omega), ix_n (by omega), nm_eq, X4 c hc, iI_m1, X1, iI_1, iI_sub, iI_sub]
  unfold rch sd
  have := Nat.mod_lt c (show w > 0 by omega)
  cases g
  · simp only [Bool.false_eq_true, if_false]
    simp only [if_true]
  · simp only [if_true]
    rw [eq_f (by omega)]
    congr 3
    omega
theorem x_rise {S : St} {w N : Nat} {h st dy : Nat → Int} (G : Gr w N h st dy) (X : GX S w N h st dy) {c d : Nat} {g : Bool} (hc : c < N) (hd : d ≤ rch w c g) : m_X5_rise (iI c) (iI (sd g * d)) S = some (iI (rs h st c (oth c d g)), S) := by
  obtain ⟨hw, hN⟩ := G.w4
  obtain ⟨ho, hg⟩ := G.in_row hc hd
  obtain ⟨X1, X2, X3, X4, X5, X6⟩ := X
  unfold m_X5_rise
  rw [iI_add, oth_int hg, nm_eq, chk_t (by omega), chk_t (by omega), chk_t (by omega), ix_n (by omega), ix_n (by omega), X3 _ ho, X5 _ (by omega), X3 _ hc, iI_add, iI_sub]
  rfl
theorem rs_bd {w N : Nat} {h st dy : Nat → Int} (G : Gr w N h st dy) (c o : Nat) : -9 ≤ rs h st c o ∧ rs h st c o ≤ 29 := by
  obtain ⟨-, h1, h2, -⟩ := G
  have a := h1 c; have b := h1 o; have e := h2 o
  unfold rs
  omega
/-- the inner loop: a slope k, a rise z -/
theorem x_dark_in {S : St} {x1 x2 x3 x5 x6 : Int32} {z : Int} {k : Nat} (hz : -100 ≤ z ∧ z ≤ 100) (hk : 1 ≤ k ∧ k ≤ 100) {kk : Int32 → St → Option (Int32 × St)} : ∀ (M N a : Nat), a ≤ 6 → 6 - a ≤ M → 6 - a < N → ∃ b : Nat, a ≤ b ∧ b ≤ 6 ∧ (∀ j, a ≤ j → j < 6 → (j < b ↔ ((k * (j + 1) : Nat) : Int) < z)) ∧ it1 (b_X5_darkHours_40 x1 x2 x3 x5 x6 (iI z) (iI k) kk) N (iI a) S = kk (iI b) S := by
  intro M
  induction M with
  | zero =>
    intro N a h1 h2 h3
    obtain ⟨N, rfl⟩ : ∃ n, N = n + 1 := ⟨N - 1, by omega⟩
    refine ⟨a, by omega, h1, fun j _ _ => by omega, ?_⟩
    rw [it1_s]
    unfold b_X5_darkHours_40
    rw [l6, lt_f (by omega)]
  | succ M ih =>
    intro N a h1 h2 h3
    obtain ⟨N, rfl⟩ : ∃ n, N = n + 1 := ⟨N - 1, by omega⟩
    by_cases ha : a = 6
    · refine ⟨a, by omega, h1, fun j _ _ => by omega, ?_⟩
      rw [it1_s]
      unfold b_X5_darkHours_40
      rw [l6, lt_f (by omega)]
    · have hka : (k * (a + 1) : Nat) ≤ 100 * 6 := Nat.mul_le_mul (by omega) (by omega)
      have e1 : (k : Int) * ((a : Int) + 1) = ((k * (a + 1) : Nat) : Int) := by push_cast; rfl
      by_cases hq : ((k * (a + 1) : Nat) : Int) < z
      · obtain ⟨b, b1, b2, b3, b4⟩ := ih N (a + 1) (by omega) (by omega) (by omega)
        refine ⟨b, by omega, b2, fun j g1 g2 => ?_, ?_⟩
        · by_cases hj : j = a
          · subst hj
            exact ⟨fun _ => hq, fun _ => by omega⟩
          · exact b3 j (by omega) g2
        · rw [it1_s]
          unfold b_X5_darkHours_40
          rw [l6, lt_t (by omega), iI_1, iI_add, iI_mul, e1, lt_t (by omega)]
          exact b4
      · refine ⟨a, by omega, h1, fun j g1 g2 => ⟨fun _ => by omega, fun g3 => ?_⟩, ?_⟩
        · have : k * (a + 1) ≤ k * (j + 1) := Nat.mul_le_mul_left k (by omega)
          omega
        · rw [it1_s]
          unfold b_X5_darkHours_40
          rw [l6, lt_t (by omega), iI_1, iI_add, iI_mul, e1, lt_f (by omega)]
theorem any_succ {n : Nat} {p : Nat → Bool} : (List.range (n + 1)).any p = ((List.range n).any p || p n) := by
  rw [List.range_succ, List.any_append]
  simp
/-- what the first D cells on a side make dark -/
def exD (h st : Nat → Int) (c : Nat) (g : Bool) (D k : Nat) : Bool := (List.range D).any (fun e => decide ((((e + 1) * k : Nat) : Int) < rs h st c (oth c (e + 1) g)))
theorem cnt6 {p : Nat → Bool} {x : Nat} (hx : x ≤ 6) (h : ∀ j, j < 6 → (j < x ↔ p (j + 1) = true)) : b2n (p 1) + b2n (p 2) + b2n (p 3) + b2n (p 4) + b2n (p 5) + b2n (p 6) = x := by
  have e : ∀ j, j < 6 → p (j + 1) = decide (j < x) := fun j hj => by
    have := h j hj
    cases hp : p (j + 1)
    · rw [hp] at this
      simp at this ⊢
      omega
    · rw [hp] at this
      simp at this ⊢
      omega
  rw [e 0 (by omega), e 1 (by omega), e 2 (by omega), e 3 (by omega), e 4 (by omega), e 5 (by omega)]
  rcases (show x = 0 ∨ x = 1 ∨ x = 2 ∨ x = 3 ∨ x = 4 ∨ x = 5 ∨ x = 6 by omega) with rfl | rfl | rfl | rfl | rfl | rfl | rfl <;> decide
theorem x_dark {S : St} {w N : Nat} {h st dy : Nat → Int} (G : Gr w N h st dy) (X : GX S w N h st dy) {c s : Nat} (hc : c < N) (hs : s < 4) (g : Bool) : m_X5_darkHours (iI c) (iI s) (iI (sd g)) S = some (iI (dk w h st c s g : Nat), S) := by
  obtain ⟨hw, hN⟩ := G.w4
  have hr3 := rch_le (w := w) (by omega) c g
  unfold m_X5_darkHours
  rw [x_reach G X hc g, bnd_some]
  refine it2_inv (fun i x y T => ∃ a : Nat, x = iI a ∧ y = iI ((i + 1 : Nat) : Int) ∧ T = S ∧ a ≤ 6 ∧ ∀ j, j < 6 → (j < a ↔ exD h st c g i ((s + 1) * (j + 1)) = true)) (rch w c g) (fun o => o = some (iI (dk w h st c s g : Nat), S)) ?_ ?_ 5000 0 _ _ S (Nat.zero_le _) (by omega) ⟨0, rfl, rfl, rfl, by omega, fun j _ => by simp [exD]⟩
  · rintro i x y T hi ⟨a, rfl, rfl, rfl, ha, hj⟩
    have hb := rs_bd G c (oth c (i + 1) g)
    have e1 : sd g * ((i + 1 : Nat) : Int) = sd g * ((i + 1 : Nat) : Int) := rfl
    have e2 : ((i + 1 : Nat) : Int) * ((s : Int) + 1) = (((i + 1) * (s + 1) : Nat) : Int) := by push_cast; rfl
    have hk : (i + 1) * (s + 1) ≤ 3 * 4 := Nat.mul_le_mul (by omega) (by omega)
    have hk0 : 0 < (i + 1) * (s + 1) := Nat.mul_pos (by omega) (by omega)
    intro rec
    obtain ⟨b, b1, b2, b3, b4⟩ := x_dark_in (S := T) (x1 := iI c) (x2 := iI s) (x3 := iI (sd g)) (x5 := iI (rch w c g : Nat)) (x6 := iI ((i + 1 : Nat) : Int)) (kk := fun x4_S6 S6 => rec x4_S6 (iI ((i + 1 : Nat) : Int) + 1) S6) (z := rs h st c (oth c (i + 1) g)) (k := (i + 1) * (s + 1)) (by omega) (by omega) 6 5000 a ha (by omega) (by omega)
    refine ⟨iI b, iI ((i + 1 + 1 : Nat) : Int), T, ⟨b, rfl, rfl, rfl, b2, fun j hj6 => ?_⟩, ?_⟩
    · unfold exD
      rw [any_succ, Bool.or_eq_true, ← exD, ← hj j hj6, decide_eq_true_eq, show (i + 1) * ((s + 1) * (j + 1)) = ((i + 1) * (s + 1)) * (j + 1) from (Nat.mul_assoc _ _ _).symm]
      by_cases hja : j < a
      · exact ⟨fun _ => Or.inl hja, fun _ => by omega⟩
      · rw [b3 j (by omega) hj6]
        exact ⟨Or.inr, fun q => q.resolve_left hja⟩
    · unfold b_X5_darkHours_14
      rw [lt_f (by omega), iI_mul, x_rise G X hc (by omega), bnd_some, iI_1, iI_add, iI_mul, e2, nm_eq, ← iI_1, b4, iI_1, iI_add]
      congr 1
  · rintro x y T ⟨a, rfl, rfl, rfl, ha, hj⟩ rec
    unfold b_X5_darkHours_14
    rw [lt_t (by omega)]
    have e : dk w h st c s g = a := cnt6 (p := fun k => exd w h st c g ((s + 1) * k)) ha hj
    rw [e]
