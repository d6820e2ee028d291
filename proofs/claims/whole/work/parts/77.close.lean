/-! PURE: the reference's sweeps and the class's growing reach the same set -/
def Sub (x y : Nat) : Prop := ∀ i, x.testBit i = true → y.testBit i = true
theorem Sub.tr {x y z : Nat} (h1 : Sub x y) (h2 : Sub y z) : Sub x z := fun i h => h2 i (h1 i h)
theorem Sub.eq {x y : Nat} (h1 : Sub x y) (h2 : Sub y x) : x = y := by
  refine Nat.eq_of_testBit_eq (fun i => ?_)
  have a := h1 i
  have b := h2 i
  cases hx : x.testBit i <;> cases hy : y.testBit i <;> simp_all
theorem colm_bit {w N q c : Nat} : (colm w N q).testBit c = (decide (c < N) && decide (c % w = q)) := by
  by_cases h : c < N
  · rw [Nat.testBit_eq_decide_div_mod_eq]
    unfold colm
    rw [bs_bit _ N c h]
    by_cases q2 : c % w = q <;> simp [h, q2]
  · have hl : colm w N q < 2 ^ N := bs_lt _ _
    rw [Nat.testBit_lt_two_pow (Nat.lt_of_lt_of_le hl (Nat.pow_le_pow_right (by omega) (by omega)))]
    simp [h]
theorem bit_lt {x N i : Nat} (hx : x < 2 ^ N) (h : x.testBit i = true) : i < N := by
  rcases Nat.lt_or_ge i N with g | g
  · exact g
  · rw [Nat.testBit_lt_two_pow (Nat.lt_of_lt_of_le hx (Nat.pow_le_pow_right (by omega) g))] at h
    exact absurd h (by decide)
theorem nbr_bit {w N x b : Nat} (hx : x < 2 ^ N) : (nbr w N x).testBit b = true ↔ (1 ≤ b ∧ x.testBit (b - 1) = true ∧ (b - 1) % w ≠ w - 1) ∨ (x.testBit (1 + b) = true ∧ (1 + b) % w ≠ 0) ∨ (w ≤ b ∧ x.testBit (b - w) = true) ∨ x.testBit (w + b) = true := by
  unfold nbr
  simp only [Nat.testBit_or, Nat.testBit_shiftLeft, Nat.testBit_shiftRight, Nat.testBit_and, Nat.testBit_xor, Nat.testBit_two_pow_sub_one, colm_bit, Bool.or_eq_true, Bool.and_eq_true, decide_eq_true_eq, ge_iff_le]
  have e1 : ∀ c q, x.testBit c = true → ((decide (c < N) ^^ (decide (c < N) && decide (c % w = q))) = true ↔ c % w ≠ q) := fun c q h => by
    have := bit_lt hx h
    by_cases g : c % w = q <;> simp [this, g]
  constructor
  · rintro (((⟨h1, h2, h3⟩ | ⟨h1, h2⟩) | h) | h)
    · exact Or.inl ⟨h1, h2, (e1 _ _ h2).mp h3⟩
    · exact Or.inr (Or.inl ⟨h1, (e1 _ _ h1).mp h2⟩)
    · exact Or.inr (Or.inr (Or.inl h))
    · exact Or.inr (Or.inr (Or.inr h))
  · rintro (⟨h1, h2, h3⟩ | ⟨h1, h2⟩ | h | h)
    · exact Or.inl (Or.inl (Or.inl ⟨h1, h2, (e1 _ _ h2).mpr h3⟩))
    · exact Or.inl (Or.inl (Or.inr ⟨h1, (e1 _ _ h1).mpr h2⟩))
    · exact Or.inl (Or.inr h)
    · exact Or.inr h
theorem adj_iff {w a b : Nat} : adj w a b = true ↔ (a < b ∧ (b - a = w ∨ (b - a = 1 ∧ a / w = b / w))) ∨ (¬ a < b ∧ (a - b = w ∨ (a - b = 1 ∧ a / w = b / w))) := by
  unfold adj
  by_cases h : a < b <;> simp [h]
theorem nbr_adj {w N x b : Nat} (hw : w = 1 ∨ w = 2 ∨ w = 3 ∨ w = 4) (hx : x < 2 ^ N) : (nbr w N x).testBit b = true ↔ ∃ a, x.testBit a = true ∧ adj w a b = true := by
  rw [nbr_bit hx]
  constructor
  · rintro (⟨h1, h2, h3⟩ | ⟨h1, h2⟩ | ⟨h1, h2⟩ | h)
    · refine ⟨b - 1, h2, adj_iff.mpr (Or.inl ⟨by omega, Or.inr ⟨by omega, ?_⟩⟩)⟩
      rcases hw with rfl | rfl | rfl | rfl <;> omega
    · refine ⟨1 + b, h1, adj_iff.mpr (Or.inr ⟨by omega, Or.inr ⟨by omega, ?_⟩⟩)⟩
      rcases hw with rfl | rfl | rfl | rfl <;> omega
    · exact ⟨b - w, h2, adj_iff.mpr (Or.inl ⟨by omega, Or.inl (by omega)⟩)⟩
    · exact ⟨w + b, h, adj_iff.mpr (Or.inr ⟨by omega, Or.inl (by omega)⟩)⟩
  · rintro ⟨a, h1, h2⟩
    rcases adj_iff.mp h2 with ⟨g1, g2 | ⟨g2, g3⟩⟩ | ⟨g1, g2 | ⟨g2, g3⟩⟩
    · refine Or.inr (Or.inr (Or.inl ⟨by omega, ?_⟩))
      rw [show b - w = a by omega]; exact h1
    · refine Or.inl ⟨by omega, by rw [show b - 1 = a by omega]; exact h1, ?_⟩
      rw [show b - 1 = a by omega]
      rw [show b = a + 1 by omega] at g3
      rcases hw with rfl | rfl | rfl | rfl <;> omega
    · refine Or.inr (Or.inr (Or.inr ?_))
      rw [show w + b = a by omega]; exact h1
    · refine Or.inr (Or.inl ⟨by rw [show 1 + b = a by omega]; exact h1, ?_⟩)
      rw [show a = b + 1 by omega] at g3
      rcases hw with rfl | rfl | rfl | rfl <;> omega
theorem grw_bit {w N v x b : Nat} (hw : w = 1 ∨ w = 2 ∨ w = 3 ∨ w = 4) (hx : x < 2 ^ N) : (grw w N v x).testBit b = true ↔ x.testBit b = true ∨ (v.testBit b = true ∧ ∃ a, x.testBit a = true ∧ adj w a b = true) := by
  unfold grw
  rw [Nat.testBit_or, Nat.testBit_and, Bool.or_eq_true, Bool.and_eq_true, nbr_adj hw hx]
  constructor
  · rintro (h | ⟨h1, h2⟩)
    · exact Or.inl h
    · exact Or.inr ⟨h2, h1⟩
  · rintro (h | ⟨h1, h2⟩)
    · exact Or.inl h
    · exact Or.inr ⟨h2, h1⟩
/- one sweep of the reference -/
def ste (w v a x b : Nat) : Nat := if (x.testBit a && (v.testBit b && adj w a b)) = true then x ||| 2 ^ b else x
def swB (w v a x : Nat) : Nat → Nat
  | 0 => x
  | n + 1 => ste w v a (swB w v a x n) n
def swA (w N v x : Nat) : Nat → Nat
  | 0 => x
  | n + 1 => swB w v n (swA w N v x n) N
def swp12 (w N v x : Nat) : Nat := swA w N v x N
theorem ste_sub {w v a x b : Nat} : Sub x (ste w v a x b) := fun i h => by
  unfold ste
  split
  · rw [Nat.testBit_or, h, Bool.true_or]
  · exact h
theorem swB_sub {w v a x : Nat} : ∀ n, Sub x (swB w v a x n)
  | 0 => fun _ h => h
  | n + 1 => (swB_sub n).tr ste_sub
theorem swA_sub {w N v x : Nat} : ∀ n, Sub x (swA w N v x n)
  | 0 => fun _ h => h
  | n + 1 => (swA_sub n).tr (swB_sub N)
theorem swB_has {w v a x b : Nat} (h1 : x.testBit a = true) (h2 : v.testBit b = true) (h3 : adj w a b = true) : ∀ n, b < n → (swB w v a x n).testBit b = true
  | 0, h => absurd h (Nat.not_lt_zero _)
  | n + 1, h => by
    by_cases e : b = n
    · subst e
      show (ste w v a (swB w v a x b) b).testBit b = true
      unfold ste
      rw [if_pos (by rw [swB_sub b a h1, h2, h3]; rfl), Nat.testBit_or, Nat.testBit_two_pow_self, Bool.or_true]
    · exact ste_sub b (swB_has h1 h2 h3 n (by omega))
theorem swA_has {w N v x a b : Nat} (h1 : x.testBit a = true) (h2 : v.testBit b = true) (h3 : adj w a b = true) (hb : b < N) : ∀ n, a < n → (swA w N v x n).testBit b = true
  | 0, h => absurd h (Nat.not_lt_zero _)
  | n + 1, h => by
    by_cases e : a = n
    · subst e
      exact swB_has (swA_sub a a h1) h2 h3 N hb
    · exact swB_sub N b (swA_has h1 h2 h3 hb n (by omega))
theorem grw_sw {w N v x y : Nat} (hw : w = 1 ∨ w = 2 ∨ w = 3 ∨ w = 4) (hx : x < 2 ^ N) (hv : v < 2 ^ N) (h : Sub x y) : Sub (grw w N v x) (swp12 w N v y) := fun b hb => by
  rcases (grw_bit hw hx).mp hb with g | ⟨g1, a, g2, g3⟩
  · exact swA_sub N b (h b g)
  · exact swA_has (h a g2) g1 g3 (bit_lt hv g1) N (bit_lt hx g2)
def Clo (w v K : Nat) : Prop := ∀ a b, K.testBit a = true → v.testBit b = true → adj w a b = true → K.testBit b = true
theorem ste_in {w v a x b K : Nat} (hK : Clo w v K) (h : Sub x K) : Sub (ste w v a x b) K := fun i hi => by
  unfold ste at hi
  split at hi
  · rename_i q
    rw [Bool.and_eq_true, Bool.and_eq_true] at q
    rw [Nat.testBit_or, Bool.or_eq_true] at hi
    rcases hi with hi | hi
    · exact h i hi
    · have e : b = i := by
        rw [Nat.testBit_two_pow] at hi
        exact of_decide_eq_true hi
      rw [← e]
      exact hK a b (h a q.1) q.2.1 q.2.2
  · exact h i hi
theorem swB_in {w v a x K : Nat} (hK : Clo w v K) (h : Sub x K) : ∀ n, Sub (swB w v a x n) K
  | 0 => h
  | n + 1 => ste_in hK (swB_in hK h n)
theorem swA_in {w N v x K : Nat} (hK : Clo w v K) (h : Sub x K) : ∀ n, Sub (swA w N v x n) K
  | 0 => h
  | n + 1 => swB_in hK (swA_in hK h n) N
theorem rep_in {w N v K : Nat} (hK : Clo w v K) : ∀ k x, Sub x K → Sub (rep (swp12 w N v) k x) K
  | 0, _, h => h
  | k + 1, _, h => rep_in hK k _ (swA_in hK h N)
theorem rep_up {w N v : Nat} (hw : w = 1 ∨ w = 2 ∨ w = 3 ∨ w = 4) (hv : v < 2 ^ N) : ∀ k x y, x < 2 ^ N → Sub x y → Sub (rep (grw w N v) k x) (rep (swp12 w N v) k y)
  | 0, _, _, _, h => h
  | k + 1, _, _, hx, h => rep_up hw hv k _ _ (grw_lt hv hx) (grw_sw hw hx hv h)
/- growing stands still behind twelve steps -/
def cn (x n : Nat) : Int := sm (fun i => if x.testBit i then 1 else 0) n
theorem sm_lt {f g : Nat → Int} : ∀ {n : Nat}, (∀ k, k < n → f k ≤ g k) → (∃ k, k < n ∧ f k < g k) → sm f n < sm g n
  | 0, _, h => by obtain ⟨k, hk, -⟩ := h; exact absurd hk (Nat.not_lt_zero _)
  | n + 1, h, ⟨k, hk, hl⟩ => by
    have h2 := h n (by omega)
    rw [sm, sm]
    by_cases e : k = n
    · subst e
      have := sm_le (n := k) (fun j hj => h j (by omega))
      omega
    · have := sm_lt (n := n) (fun j hj => h j (by omega)) ⟨k, by omega, hl⟩
      omega
theorem cn_lt {x y N : Nat} (h : Sub x y) (hy : y < 2 ^ N) (hn : ¬ y = x) : cn x N < cn y N := by
  have ex : ∃ i, y.testBit i = true ∧ ¬ x.testBit i = true := Classical.byContradiction (fun g => hn ((Sub.eq h (fun i hi => Classical.byContradiction (fun q => g ⟨i, hi, q⟩))).symm))
  obtain ⟨i, h1, h2⟩ := ex
  refine sm_lt (fun k _ => ?_) ⟨i, bit_lt hy h1, ?_⟩
  · by_cases q : x.testBit k = true
    · rw [if_pos q, if_pos (h k q)]; exact Int.le_refl _
    · rw [if_neg q]; split <;> omega
  · rw [if_neg h2, if_pos h1]; omega
theorem cn_bd (x n : Nat) : 0 ≤ cn x n ∧ cn x n ≤ n := by
  have h := sm_bd (f := fun i => if x.testBit i then (1 : Int) else 0) (a := 0) (b := 1) (n := n) (fun k _ => by split <;> omega)
  unfold cn
  omega
theorem grw_up {w N v x : Nat} : Sub x (grw w N v x) := fun i h => by
  unfold grw
  rw [Nat.testBit_or, h, Bool.true_or]
theorem rep_grow {w N v : Nat} (hv : v < 2 ^ N) : ∀ (k x : Nat), x < 2 ^ N → grw w N v (rep (grw w N v) k x) = rep (grw w N v) k x ∨ (k : Int) + 1 + cn x N ≤ cn (grw w N v (rep (grw w N v) k x)) N
  | 0, x, hx => by
    by_cases q : grw w N v x = x
    · exact Or.inl q
    · have := cn_lt grw_up (grw_lt hv hx) q
      refine Or.inr ?_
      show ((0 : Nat) : Int) + 1 + cn x N ≤ cn (grw w N v x) N
      omega
  | k + 1, x, hx => by
    by_cases q : grw w N v x = x
    · refine Or.inl ?_
      rw [rep_fix q]
      exact q
    · have h1 := cn_lt grw_up (grw_lt hv hx) q
      rcases rep_grow hv k (grw w N v x) (grw_lt hv hx) with g | g
      · exact Or.inl g
      · refine Or.inr ?_
        show ((k + 1 : Nat) : Int) + 1 + cn x N ≤ cn (grw w N v (rep (grw w N v) k (grw w N v x))) N
        omega
theorem rep_12 {w N v x : Nat} (hN : N ≤ 12) (hv : v < 2 ^ N) (hx : x < 2 ^ N) : grw w N v (rep (grw w N v) 12 x) = rep (grw w N v) 12 x := by
  rcases rep_grow (w := w) hv 12 x hx with h | h
  · exact h
  · have h1 := cn_bd x N
    have h2 := cn_bd (grw w N v (rep (grw w N v) 12 x)) N
    omega
theorem sweeps {w N v : Nat} (hw : w = 1 ∨ w = 2 ∨ w = 3 ∨ w = 4) (hN : N ≤ 12) (hv : v < 2 ^ N) : rep (swp12 w N v) 12 (lowb v) = rep (grw w N v) 12 (lowb v) := by
  have hl := low_lt hv
  have hC : rep (grw w N v) 12 (lowb v) < 2 ^ N := rep_lt hv 12 _ hl
  have fx := rep_12 (w := w) hN hv hl
  have clo : Clo w v (rep (grw w N v) 12 (lowb v)) := fun a b h1 h2 h3 => by
    rw [← fx]
    exact (grw_bit hw hC).mpr (Or.inr ⟨h2, a, h1, h3⟩)
  have sub0 : Sub (lowb v) (rep (grw w N v) 12 (lowb v)) := by
    have : ∀ k x, Sub x (rep (grw w N v) k x) := fun k => by
      induction k with
      | zero => exact fun x i h => h
      | succ k ih => exact fun x => grw_up.tr (ih _)
    exact this 12 _
  exact Sub.eq (rep_in clo 12 _ sub0) (rep_up hw hv 12 _ _ hl (fun _ h => h))
