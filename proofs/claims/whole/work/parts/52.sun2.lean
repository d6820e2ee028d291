/-! PURE: hours as bits, years; the class's side of the sun -/
theorem iI_n (n : Nat) : iI (n : Int) = nI n := Int32.ofInt_eq_ofNat
def sm (f : Nat → Int) : Nat → Int
  | 0 => 0
  | n + 1 => sm f n + f n
theorem sm_cong {f g : Nat → Int} : ∀ {n : Nat}, (∀ k, k < n → f k = g k) → sm f n = sm g n
  | 0, _ => rfl
  | n + 1, h => by rw [sm, sm, sm_cong (fun k hk => h k (by omega)), h n (by omega)]
theorem sm_bd {f : Nat → Int} {a b : Int} : ∀ {n : Nat}, (∀ k, k < n → a ≤ f k ∧ f k ≤ b) → n * a ≤ sm f n ∧ sm f n ≤ n * b
  | 0, _ => by simp [sm]
  | n + 1, h => by
    have h1 := sm_bd (n := n) (fun k hk => h k (by omega))
    have h2 := h n (by omega)
    rw [sm]
    push_cast
    rw [Int.add_mul, Int.add_mul]
    omega
/-- bits of a row of truths -/
def bs (p : Nat → Bool) : Nat → Nat
  | 0 => 0
  | n + 1 => bs p n + (if p n then 2 ^ n else 0)
theorem bs_lt (p : Nat → Bool) : ∀ n, bs p n < 2 ^ n
  | 0 => by simp [bs]
  | n + 1 => by
    have := bs_lt p n
    rw [bs, Nat.pow_succ]
    split <;> omega
theorem bs_cong {p q : Nat → Bool} : ∀ {n : Nat}, (∀ k, k < n → p k = q k) → bs p n = bs q n
  | 0, _ => rfl
  | n + 1, h => by rw [bs, bs, bs_cong (fun k hk => h k (by omega)), h n (by omega)]
theorem one_shl : ∀ n, n < 31 → (1 : Int32) <<< (nI n &&& 31) = nI (2 ^ n) := by decide +kernel
theorem bs_or (p : Nat → Bool) {n : Nat} (hn : n < 31) : nI (bs p n) ||| ((1 : Int32) <<< (nI n &&& 31)) = nI (bs p n + 2 ^ n) := by
  rw [one_shl n hn, fa_or]
  have := bs_lt p n
  rw [show bs p n ||| 2 ^ n = 2 ^ n + bs p n from ?_, Nat.add_comm]
  rw [Nat.or_comm]
  have := Nat.two_pow_add_eq_or_of_lt this 1
  rw [Nat.mul_one] at this
  exact this.symm
theorem or_0 (x : Int32) : x ||| 0 = x := by simp
theorem exd_mono {w : Nat} {h st : Nat → Int} {c : Nat} {g : Bool} {k k' : Nat} (hk : k ≤ k') (he : exd w h st c g k' = true) : exd w h st c g k = true := by
  unfold exd at *
  rw [List.any_eq_true] at *
  obtain ⟨e, h1, h2⟩ := he
  refine ⟨e, h1, ?_⟩
  rw [decide_eq_true_eq] at *
  have : (e + 1) * k ≤ (e + 1) * k' := Nat.mul_le_mul_left _ hk
  omega
theorem mono6 : ∀ p1 p2 p3 p4 p5 p6 : Bool, (p2 = true → p1 = true) → (p3 = true → p2 = true) → (p4 = true → p3 = true) → (p5 = true → p4 = true) → (p6 = true → p5 = true) →
    (0 < b2n p1 + b2n p2 + b2n p3 + b2n p4 + b2n p5 + b2n p6 ↔ p1 = true) ∧ (1 < b2n p1 + b2n p2 + b2n p3 + b2n p4 + b2n p5 + b2n p6 ↔ p2 = true) ∧ (2 < b2n p1 + b2n p2 + b2n p3 + b2n p4 + b2n p5 + b2n p6 ↔ p3 = true) ∧ (3 < b2n p1 + b2n p2 + b2n p3 + b2n p4 + b2n p5 + b2n p6 ↔ p4 = true) ∧ (4 < b2n p1 + b2n p2 + b2n p3 + b2n p4 + b2n p5 + b2n p6 ↔ p5 = true) ∧ (5 < b2n p1 + b2n p2 + b2n p3 + b2n p4 + b2n p5 + b2n p6 ↔ p6 = true) ∧ b2n p1 + b2n p2 + b2n p3 + b2n p4 + b2n p5 + b2n p6 ≤ 6 := by
  intro p1 p2 p3 p4 p5 p6
  cases p1 <;> cases p2 <;> cases p3 <;> cases p4 <;> cases p5 <;> cases p6 <;> simp [b2n]
theorem dk_all (w : Nat) (h st : Nat → Int) (c s : Nat) (g : Bool) : dk w h st c s g ≤ 6 ∧ ∀ j, j < 6 → (j < dk w h st c s g ↔ exd w h st c g ((s + 1) * (j + 1)) = true) := by
  have hm : ∀ a, exd w h st c g ((s + 1) * (a + 1)) = true → exd w h st c g ((s + 1) * a) = true := fun a => exd_mono (Nat.mul_le_mul_left _ (by omega))
  obtain ⟨h0, h1, h2, h3, h4, h5, h6⟩ := mono6 _ _ _ _ _ _ (hm 1) (hm 2) (hm 3) (hm 4) (hm 5)
  refine ⟨h6, fun j hj => ?_⟩
  rcases (show j = 0 ∨ j = 1 ∨ j = 2 ∨ j = 3 ∨ j = 4 ∨ j = 5 by omega) with rfl | rfl | rfl | rfl | rfl | rfl
  · exact h0
  · exact h1
  · exact h2
  · exact h3
  · exact h4
  · exact h5
/-- has it sun in an hour -/
def lit (w : Nat) (h st : Nat → Int) (c s j : Nat) : Bool := !(if j < 6 then exd w h st c false ((s + 1) * (j + 1)) else exd w h st c true ((s + 1) * (12 - j)))
def tb (a b : Nat) : Nat := bs (fun j => if j < 6 then decide (a ≤ j) else decide (b ≤ 11 - j)) 12
def btl (w : Nat) (h st : Nat → Int) (c s : Nat) : Nat := bs (lit w h st c s) 12
theorem btl_tb (w : Nat) (h st : Nat → Int) (c s : Nat) : btl w h st c s = tb (dk w h st c s false) (dk w h st c s true) := by
  refine bs_cong (fun j hj => ?_)
  unfold lit
  by_cases h6 : j < 6
  · rw [if_pos h6, if_pos h6]
    have := (dk_all w h st c s false).2 j h6
    cases he : exd w h st c false ((s + 1) * (j + 1))
    · rw [he] at this
      simp at this ⊢
      omega
    · rw [he] at this
      simp at this ⊢
      omega
  · rw [if_neg h6, if_neg h6]
    have := (dk_all w h st c s true).2 (11 - j) (by omega)
    rw [show 11 - j + 1 = 12 - j by omega] at this
    cases he : exd w h st c true ((s + 1) * (12 - j))
    · rw [he] at this
      simp at this ⊢
      omega
    · rw [he] at this
      simp at this ⊢
      omega
def hr (w : Nat) (h st : Nat → Int) (c s : Nat) : Nat := 12 - (dk w h st c s false + dk w h st c s true)
def yr (w : Nat) (h st dy : Nat → Int) (c : Nat) : Int := sm (fun s => (hr w h st c s : Int) * dy s) 4
theorem hr_le (w : Nat) (h st : Nat → Int) (c s : Nat) : hr w h st c s ≤ 12 := by unfold hr; omega
theorem yr_bd {w N : Nat} {h st dy : Nat → Int} (G : Gr w N h st dy) (c : Nat) : 0 ≤ yr w h st dy c ∧ yr w h st dy c ≤ 4752 := by
  have h1 := sm_bd (f := fun s => (hr w h st c s : Int) * dy s) (a := 0) (b := 1188) (n := 4) (fun k hk => by
    have h2 := hr_le w h st c k
    have h3 := G.2.2.2 k
    refine ⟨Int.mul_nonneg (by omega) h3.1, ?_⟩
    have := Int.mul_le_mul (show (hr w h st c k : Int) ≤ 12 by omega) h3.2 h3.1 (by omega)
    omega)
  unfold yr
  omega
theorem tb_class : ∀ a, a < 7 → ∀ b, b < 7 → ((63 : Int32) >>> (nI a &&& 31)) <<< (nI a &&& 31) ||| ((63 : Int32) >>> (nI b &&& 31)) <<< ((6 : Int32) &&& 31) = nI (tb a b) := by decide +kernel
theorem x_bits {S : St} {w N : Nat} {h st dy : Nat → Int} (G : Gr w N h st dy) (X : GX S w N h st dy) {c s : Nat} (hc : c < N) (hs : s < 4) : m_X5_bitsAsBuilt (iI c) (iI s) S = some (nI (btl w h st c s), S) := by
  unfold m_X5_bitsAsBuilt
  have d1 := (dk_all w h st c s false).1
  have d2 := (dk_all w h st c s true).1
  have e1 := x_dark G X hc hs false
  have e2 := x_dark G X hc hs true
  rw [show (-1 : Int32) = iI (sd false) from rfl, show (1 : Int32) = iI (sd true) from rfl, e1, bnd_some, e2, bnd_some, iI_n, iI_n, tb_class _ (by omega) _ (by omega), btl_tb]
theorem x_year {S : St} {w N : Nat} {h st dy : Nat → Int} (G : Gr w N h st dy) (X : GX S w N h st dy) {c : Nat} (hc : c < N) : m_X5_yearAsBuilt (iI c) S = some (iI (yr w h st dy c), S) := by
  unfold m_X5_yearAsBuilt
  refine it2_inv (fun i x y T => x = iI (sm (fun s => (hr w h st c s : Int) * dy s) i) ∧ y = iI (i : Int) ∧ T = S) 4 (fun o => o = some (iI (yr w h st dy c), S)) ?_ ?_ 5000 0 _ _ S (Nat.zero_le _) (by omega) ⟨rfl, rfl, rfl⟩
  · rintro i x y T hi ⟨rfl, rfl, rfl⟩
    refine fun rec => ⟨_, _, T, ⟨rfl, rfl, rfl⟩, ?_⟩
    unfold b_X5_yearAsBuilt_4
    have d1 := (dk_all w h st c i false).1
    have d2 := (dk_all w h st c i true).1
    rw [l4, lt_t (by omega), show (-1 : Int32) = iI (sd false) from rfl, show (1 : Int32) = iI (sd true) from rfl, x_dark G X hc hi false, bnd_some, x_dark G X hc hi true, bnd_some, iI_add, nm_eq, chk_t (by omega), ix_n (by omega), X.2.2.2.2.2 i hi, l12, iI_sub, iI_mul, iI_add, nm_eq, show iI (sd true) = iI 1 from rfl, iI_add]
    congr 1
    rw [sm]
    congr 3
    unfold hr
    omega
  · rintro x y T ⟨rfl, rfl, rfl⟩ rec
    unfold b_X5_yearAsBuilt_4
    rw [l4, lt_f (by omega)]
    rfl
