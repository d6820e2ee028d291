/-! taken, highest -/
theorem exd_le {w : Nat} {h st st' : Nat → Int} {c : Nat} {g : Bool} {k : Nat} (hs : ∀ e, e < rch w c g → st (oth c (e + 1) g) ≤ st' (oth c (e + 1) g)) (he : exd w h st c g k = true) : exd w h st' c g k = true := by
  unfold exd at *
  rw [List.any_eq_true] at *
  obtain ⟨e, h1, h2⟩ := he
  have := hs e (List.mem_range.mp h1)
  refine ⟨e, h1, ?_⟩
  rw [decide_eq_true_eq] at *
  unfold rs at *
  omega
theorem b2n_le {a b : Bool} (h : a = true → b = true) : b2n a ≤ b2n b := by
  cases a <;> cases b <;> simp_all [b2n]
theorem dk_le {w : Nat} {h st st' : Nat → Int} {c s : Nat} {g : Bool} (hs : ∀ e, e < rch w c g → st (oth c (e + 1) g) ≤ st' (oth c (e + 1) g)) : dk w h st c s g ≤ dk w h st' c s g := by
  unfold dk
  have f : ∀ k, b2n (exd w h st c g k) ≤ b2n (exd w h st' c g k) := fun k => b2n_le (exd_le hs)
  have f1 := f ((s + 1) * 1)
  have f2 := f ((s + 1) * 2)
  have f3 := f ((s + 1) * 3)
  have f4 := f ((s + 1) * 4)
  have f5 := f ((s + 1) * 5)
  have f6 := f ((s + 1) * 6)
  omega
theorem sm_le {f g : Nat → Int} : ∀ {n : Nat}, (∀ k, k < n → f k ≤ g k) → sm f n ≤ sm g n
  | 0, _ => Int.le_refl _
  | n + 1, h => by
    have h1 := sm_le (n := n) (fun k hk => h k (by omega))
    have h2 := h n (by omega)
    rw [sm, sm]
    omega
theorem yr_le {w : Nat} {h st st' dy : Nat → Int} {c : Nat} (hd : ∀ s, 0 ≤ dy s) (hs : ∀ g e, e < rch w c g → st (oth c (e + 1) g) ≤ st' (oth c (e + 1) g)) : yr w h st' dy c ≤ yr w h st dy c := by
  unfold yr
  refine sm_le (fun s _ => ?_)
  have h1 := dk_le (h := h) (s := s) (hs false)
  have h2 := dk_le (h := h) (s := s) (hs true)
  refine Int.mul_le_mul_of_nonneg_right ?_ (hd s)
  unfold hr
  omega
theorem row_of {w c d : Nat} {g : Bool} (hw : w = 1 ∨ w = 2 ∨ w = 3 ∨ w = 4) (hd : d ≤ rch w c g) : oth c d g / w = c / w := by
  unfold rch at hd
  unfold oth
  cases g <;> rcases hw with rfl | rfl | rfl | rfl <;> simp only [Bool.false_eq_true, if_false, if_true] at * <;> omega
theorem yr_row {w : Nat} {h st st' dy : Nat → Int} {c : Nat} (hw : w = 1 ∨ w = 2 ∨ w = 3 ∨ w = 4) (hd : ∀ s, 0 ≤ dy s) (hs : ∀ e, e / w = c / w → st e = st' e) : yr w h st dy c = yr w h st' dy c := by
  have f : ∀ g e, e < rch w c g → st (oth c (e + 1) g) = st' (oth c (e + 1) g) := fun g e he => hs _ (row_of hw (by omega))
  exact Int.le_antisymm (yr_le hd (fun g e he => Int.le_of_eq (f g e he).symm)) (yr_le hd (fun g e he => Int.le_of_eq (f g e he)))
/-- what a building of height v on cell c takes from owner o -/
def tkD (D : Nat → Nat → Int) (c : Nat) (v : Int) (o : Nat) : Int := hasY D o - hasY (upD D 3 c v) o
theorem sm_add (f : Nat → Int) (a : Nat) : ∀ b, sm f (a + b) = sm f a + sm (fun j => f (a + j)) b
  | 0 => by simp [sm]
  | b + 1 => by rw [← Nat.add_assoc, sm, sm, sm_add f a b]; omega
theorem sm_0 {f : Nat → Int} : ∀ {n : Nat}, (∀ k, k < n → f k = 0) → sm f n = 0
  | 0, _ => rfl
  | n + 1, h => by rw [sm, sm_0 (fun k hk => h k (by omega)), h n (by omega)]; rfl
theorem sm_sub (f g : Nat → Int) : ∀ n, sm f n - sm g n = sm (fun k => f k - g k) n
  | 0 => rfl
  | n + 1 => by
    have := sm_sub f g n
    rw [sm, sm, sm]
    omega
def lsT (D : Nat → Nat → Int) (c : Nat) (v : Int) (o d : Nat) : Int := if D 4 d = o then yD D d - yD (upD D 3 c v) d else 0
theorem wD_4 {D : Nat → Nat → Int} (R : Rg D) (h : 0 < ND D) : (wD D = 1 ∨ wD D = 2 ∨ wD D = 3 ∨ wD D = 4) := (gr_D R h).w4.1
theorem D5_0 {D : Nat → Nat → Int} (R : Rg D) (s : Nat) : 0 ≤ D 5 s := (R 5 s).1
theorem tk_row {D : Nat → Nat → Int} (R : Rg D) {c o : Nat} {v : Int} (hc : c < ND D) : tkD D c v o = sm (fun j => lsT D c v o (c - c % wD D + j)) (wD D) := by
  have hw := wD_4 R (by omega)
  obtain ⟨⟨-, -, -, r, hr⟩, -⟩ := gr_D R (show 0 < ND D by omega)
  have e : tkD D c v o = sm (lsT D c v o) (ND D) := by
    show sm (fun d => if D 4 d = o then yD D d else 0) (ND D) - sm (fun d => if D 4 d = o then yD (upD D 3 c v) d else 0) (ND D) = _
    rw [sm_sub]
    refine sm_cong (fun d _ => ?_)
    unfold lsT
    by_cases q : D 4 d = o
    · rw [if_pos q, if_pos q, if_pos q]
    · rw [if_neg q, if_neg q, if_neg q]; rfl
  have z : ∀ d, d / wD D ≠ c / wD D → lsT D c v o d = 0 := fun d hd => by
    have ey : yD D d = yD (upD D 3 c v) d := by
      show yr (wD D) (hD D) (D 3) (D 5) d = yr (wD D) (hD D) (upD D 3 c v 3) (D 5) d
      refine yr_row hw (D5_0 R) (fun e he => ?_)
      rw [upD_n]
      right
      intro q
      rw [q] at he
      exact hd he.symm
    unfold lsT
    rw [ey, Int.sub_self]
    split <;> rfl
  have hb : c - c % wD D + wD D ≤ ND D := by
    rw [hr] at hc ⊢
    have h1 : c / wD D < r := Nat.div_lt_of_lt_mul hc
    have h2 := Nat.div_add_mod c (wD D)
    have h3 : wD D * (c / wD D + 1) ≤ wD D * r := Nat.mul_le_mul_left _ h1
    rw [Nat.mul_succ] at h3
    omega
  rw [e, show ND D = (c - c % wD D) + (wD D + (ND D - (c - c % wD D + wD D))) by omega, sm_add, sm_add, sm_0 (n := c - c % wD D) (fun k hk => z k ?_), sm_0 (n := ND D - (c - c % wD D + wD D)) (fun k hk => z _ ?_)]
  · omega
  · rcases hw with q | q | q | q <;> rw [q] <;> omega
  · rcases hw with q | q | q | q <;> rw [q] at hk ⊢ <;> omega
theorem has_bd {D : Nat → Nat → Int} (R : Rg D) (o : Int) : 0 ≤ hasY D o ∧ hasY D o ≤ 57024 := by
  have hN := ND_le (D := D)
  have h1 := sm_bd (f := fun c => if D 4 c = o then yD D c else 0) (a := 0) (b := 4752) (n := ND D) (fun k hk => by
    have := yD_bd R (by omega) k
    split <;> omega)
  unfold hasY
  omega
theorem tk_bd {D : Nat → Nat → Int} (R : Rg D) {c o : Nat} {v : Int} (hv : 0 ≤ v ∧ v ≤ 20) : -57024 ≤ tkD D c v o ∧ tkD D c v o ≤ 57024 := by
  have h1 := has_bd R o
  have h2 := has_bd (D := upD D 3 c v) (R.up hv) o
  unfold tkD
  omega
theorem x_fill27 {S : St} : ∃ T, m_J7_fill_53178_27 (0 : Int32) S = some T ∧ Fr [27] S T ∧ ∀ o, o < 4 → gI T 27 o = iI 0 := by
  unfold m_J7_fill_53178_27
  refine it1_inv (fun i x T => x = iI (i : Int) ∧ Fr [27] S T ∧ ∀ o, o < i → gI T 27 o = iI 0) 4 (fun o => ∃ T, o = some T ∧ Fr [27] S T ∧ ∀ o, o < 4 → gI T 27 o = iI 0) ?_ ?_ 5000 0 _ _ (Nat.zero_le _) (by omega) ⟨rfl, Fr.rf, fun k hk => absurd hk (Nat.not_lt_zero _)⟩
  · rintro i x T hi ⟨rfl, A1, A2⟩ rec
    refine ⟨iI ((i + 1 : Nat) : Int), sI T 27 i (iI 0), ⟨rfl, A1.set (by decide), fun k hk => ?_⟩, ?_⟩
    · rw [gI_sI_k]
      by_cases e : k = i
      · rw [if_pos e]
      · rw [if_neg e]; exact A2 k (by omega)
    · unfold b_J7_fill_53178_27_5
      rw [l4, lt_t (by omega), chk_t (by omega), ix_n (by omega), nm_eq, l1, iI_add]
      rfl
  · rintro x T ⟨rfl, A1, A2⟩ rec
    unfold b_J7_fill_53178_27_5
    rw [l4, lt_f (by omega)]
    exact ⟨T, rfl, A1, A2⟩
theorem x_weigh {S : St} {D : Nat → Nat → Int} (R : Rg D) (X : RX S D) {c : Nat} {v : Int} (hc : c < ND D) (hv : 0 ≤ v ∧ v ≤ 20) : ∃ T, m_X6_weighLosses (iI c) (iI v) S = some T ∧ Fr [27] S T ∧ ∀ o, o < 4 → gI T 27 o = iI (tkD D c v o) := by
  have hN := ND_le (D := D)
  have hw := wD_4 R (by omega)
  obtain ⟨⟨-, -, -, r, hr⟩, -⟩ := gr_D R (show 0 < ND D by omega)
  have hb : c - c % wD D + wD D ≤ ND D := by
    have hc' := hc
    rw [hr] at hc' ⊢
    have h1 : c / wD D < r := Nat.div_lt_of_lt_mul hc'
    have h2 := Nat.div_add_mod c (wD D)
    have h3 : wD D * (c / wD D + 1) ≤ wD D * r := Nat.mul_le_mul_left _ h1
    rw [Nat.mul_succ] at h3
    omega
  have hm : c % wD D ≤ c := Nat.mod_le _ _
  obtain ⟨T, t1, t2, t3⟩ := x_fill27 (S := S)
  have XT : RX T D := X.scr (t2.mono (by decide))
  have e9 : gI T 9 c = iI ((c % wD D : Nat) : Int) := (gxx XT.1 XT.2.2.1.1).2.2.2.1 c hc
  have e10 : gI T 10 c = iI (D 3 c) := XT.1 3 c (show c < 12 by omega)
  have e42 : gI T 42 0 = iI ((wD D : Nat) : Int) := XT.2.2.1.1.2.2.1
  have RE : Rg (upD D 3 c v) := R.up hv
  have F5 : Fr [10] T (sI T 10 c (iI v)) := Fr.rf.set (by decide)
  have X5 : GX (sI T 10 c (iI v)) (wD D) (ND D) (hD D) (upD D 3 c v 3) (D 5) := gxx (D := upD D 3 c v) (XT.1.up (k := 3) (by decide) c v) (XT.2.2.1.1.fr F5 (by decide))
  have GE : Gr (wD D) (ND D) (hD D) (upD D 3 c v 3) (D 5) := gr_D (D := upD D 3 c v) RE (show 0 < ND D by omega)
  unfold m_X6_weighLosses m_X1_rowStart m_X5_build
  rw [t1, bndV_some, chk_t (by omega), ix_n (by omega), e9, iI_sub, bnd_some, show ((c : Int) - ((c % wD D : Nat) : Int)) = ((c - c % wD D : Nat) : Int) by omega, chk_t (by omega), nm_eq, chk_t (by omega), nm_eq, bnd_some, e10]
  refine it1_inv (fun i x U => x = iI ((c - c % wD D + i : Nat) : Int) ∧ Fr [27] (sI T 10 c (iI v)) U ∧ ∀ o : Nat, o < 4 → gI U 27 o = iI (sm (fun j => lsT D c v o (c - c % wD D + j)) i)) (wD D) (fun q => ∃ T, q = some T ∧ Fr [27] S T ∧ ∀ o, o < 4 → gI T 27 o = iI (tkD D c v o)) ?_ ?_ 5000 0 _ _ (Nat.zero_le _) (by omega) ⟨rfl, Fr.rf, fun o ho => by rw [gI_sI_n (by decide)]; exact t3 o ho⟩
  · rintro i x U hi ⟨rfl, A1, A2⟩ rec
    have e4 : gI U 25 (c - c % wD D + i) = iI (D 4 (c - c % wD D + i)) := by
      rw [A1.1 _ _ (by decide), gI_sI_n (by decide)]
      exact XT.1 4 _ (show c - c % wD D + i < 12 by omega)
    have r4 : 0 ≤ D 4 (c - c % wD D + i) ∧ D 4 (c - c % wD D + i) ≤ 3 := R 4 _
    have e42' : gI U 42 0 = iI ((wD D : Nat) : Int) := by rw [A1.1 _ _ (by decide), gI_sI_n (by decide), e42]
    have e14 : gI U 14 (c - c % wD D + i) = iI (yD D (c - c % wD D + i)) := by
      rw [A1.1 _ _ (by decide), gI_sI_n (by decide)]
      exact XT.2.2.1.2.2 _ (by omega)
    have eE : m_X5_yearAsBuilt (iI ((c - c % wD D + i : Nat) : Int)) U = some (iI (yD (upD D 3 c v) (c - c % wD D + i)), U) := x_year GE (X5.fr A1 (by decide)) (by omega)
    obtain ⟨p, hp⟩ : ∃ p : Nat, D 4 (c - c % wD D + i) = p := ⟨(D 4 (c - c % wD D + i)).toNat, by omega⟩
    refine ⟨iI ((c - c % wD D + (i + 1) : Nat) : Int), sI U 27 p (iI (sm (fun j => lsT D c v p (c - c % wD D + j)) (i + 1))), ⟨rfl, A1.set (by decide), fun o ho => ?_⟩, ?_⟩
    · rw [gI_sI_k]
      by_cases e : o = p
      · rw [if_pos e, e]
      · rw [if_neg e, A2 o ho, sm]
        have : lsT D c v o (c - c % wD D + i) = 0 := by unfold lsT; rw [if_neg (by omega)]
        rw [this, Int.add_zero]
    · unfold b_X6_weighLosses_31 m_X1_columns m_X5_yearOf
      rw [bnd_some, e42', iI_add, lt_t (by omega), chk_t (by omega), ix_n (by omega), e4, hp, chk_t (by omega), chk_t (by omega), e14, bnd_some, eE, bnd_some, chk_t (by omega), ix_n (by omega), A2 p (by omega), iI_sub, iI_add, nm_eq, l1, iI_add, sm]
      have : lsT D c v p (c - c % wD D + i) = yD D (c - c % wD D + i) - yD (upD D 3 c v) (c - c % wD D + i) := by unfold lsT; rw [if_pos hp]
      rw [this]
      rfl
  · rintro x U ⟨rfl, A1, A2⟩ rec
    have e42' : gI U 42 0 = iI ((wD D : Nat) : Int) := by rw [A1.1 _ _ (by decide), gI_sI_n (by decide), e42]
    unfold b_X6_weighLosses_31 m_X1_columns
    rw [bnd_some, e42', iI_add, lt_f (by omega)]
    dsimp only
    rw [chk_t (by omega), nm_eq, chk_t (by omega), nm_eq, bnd_some]
    refine ⟨_, rfl, ⟨fun a b ha => ?_, fun a b => ?_⟩, fun o ho => ?_⟩
    · rw [gI_sI]
      by_cases q : a = 10
      · rw [if_pos q, q]
        by_cases q2 : b = c
        · rw [if_pos q2, q2, ← e10]
          exact t2.1 _ _ (by decide)
        · rw [if_neg q2, A1.1 _ _ (by decide), gI_sI_k, if_neg q2]
          exact t2.1 _ _ (by decide)
      · rw [if_neg q, A1.1 _ _ ha, gI_sI_n q]
        exact t2.1 _ _ ha
    · show gL U a b = _
      rw [A1.2]
      exact t2.2 a b
    · rw [gI_sI_n (by decide), A2 o ho, tk_row R hc]
theorem upD_back {D : Nat → Nat → Int} {k j : Nat} {x : Int} : upD (upD D k j x) k j (D k j) = D := by
  funext a b
  unfold upD
  by_cases q : a = k ∧ b = j
  · rw [if_pos q, q.1, q.2]
  · rw [if_neg q, if_neg q]
theorem m_taken {S : St} {D : Nat → Nat → Int} (R : Rg D) (M : RM_ S D) {c o : Nat} {v : Int} (hc : c < 12) (ho : o < 4) (hv : 0 ≤ v ∧ v ≤ 20) : ∃ T, m_X7_takenOf (iI c) (iI v) (iI o) S = some (iI (tkD D c v o), T) ∧ Vw T D := by
  obtain ⟨T1, a1, a2, V1⟩ := m_has R M (o := o) (w := 1) (by omega) (by omega)
  have e3 : gI T1 3 c = iI (D 3 c) := V1.1.1 3 c hc
  have M2 : RM_ (sI T1 3 c (iI v)) (upD D 3 c v) := V1.1.up c v (by decide)
  obtain ⟨T2, b1, b2, V2⟩ := m_has (D := upD D 3 c v) (R.up hv) M2 (o := o) (w := 1) (by omega) (by omega)
  unfold m_X7_takenOf
  rw [l1, a1, bnd_some, chk_t (by omega), ix_n (by omega), e3, nm_eq, chk_t (by omega), nm_eq, b1, bnd_some, chk_t (by omega), nm_eq, if_neg (by decide), if_neg (by decide), iI_sub]
  refine ⟨_, rfl, ?_, ?_⟩
  · have := V2.1.up (k := 3) c (D 3 c) (by decide)
    rw [upD_back] at this
    exact this
  · have := V2.2.fr (T := sI T2 3 c (iI (D 3 c))) (K := [3]) (Fr.rf.set (by decide)) (by decide)
    exact this
theorem x_tk {S : St} {D : Nat → Nat → Int} (R : Rg D) (X : RX S D) {c o : Nat} {v : Int} (hc : c < ND D) (ho : o < 4) (hv : 0 ≤ v ∧ v ≤ 20) : ∃ T, m_X6_taken (iI c) (iI v) (iI o) S = some (iI (tkD D c v o), T) ∧ Fr [27] S T := by
  have hN := ND_le (D := D)
  obtain ⟨T, t1, t2, t3⟩ := x_weigh R X hc hv
  refine ⟨T, ?_, t2⟩
  unfold m_X6_taken
  rw [x_isCell X (by omega), bnd_some, ite01, if_pos (by omega), l21, x_below (by omega), bnd_some, ite01, if_pos (by omega), l4, x_below (by omega), bnd_some, ite01, if_pos (by omega), t1, bndV_some, chk_t (by omega), ix_n (by omega), t3 o ho]
theorem ag_taken : Ag_taken Rel := by
  rintro SX SM ⟨D, R, X, M⟩ x1 x2 x3
  obtain ⟨a, rfl, a1, a2⟩ := iI_of x1
  obtain ⟨v, rfl, v1, v2⟩ := iI_of x2
  obtain ⟨o, rfl, o1, o2⟩ := iI_of x3
  have hN := ND_le (D := D)
  obtain ⟨T, t1, V⟩ := m_isCell R M (a := a) (by omega)
  unfold m_X7_taken
  rw [t1, bnd_some, ite01]
  by_cases q1 : 0 ≤ a ∧ a < ND D
  · rw [if_pos q1, m_inN (n := 21) l20 (by omega), bnd_some, ite01]
    by_cases q2 : 0 ≤ v ∧ v < 21
    · rw [if_pos q2, m_four (by omega), bnd_some, ite01]
      by_cases q3 : 0 ≤ o ∧ o < 4
      · obtain ⟨c, rfl⟩ : ∃ c : Nat, a = c := ⟨a.toNat, by omega⟩
        obtain ⟨p, rfl⟩ : ∃ c : Nat, o = c := ⟨o.toNat, by omega⟩
        obtain ⟨T1, f1, f2⟩ := x_tk R X (c := c) (o := p) (v := v) (by omega) (by omega) (by omega)
        obtain ⟨T2, g1, g2⟩ := m_taken R V.1 (c := c) (o := p) (v := v) (by omega) (by omega) (by omega)
        rw [if_pos q3, f1, g1, bnd_some]
        exact ⟨_, _, _, rfl, rfl, D, R, X.scr (f2.mono (by decide)), g2.1⟩
      · unfold m_X6_taken
        rw [x_isCell X (by omega), bnd_some, ite01, if_pos q1, l21, x_below (by omega), bnd_some, ite01, if_pos q2, l4, x_below (by omega), bnd_some, ite01, if_neg q3, if_neg q3]
        exact ⟨_, _, _, rfl, rfl, D, R, X, V.1⟩
    · unfold m_X6_taken
      rw [x_isCell X (by omega), bnd_some, ite01, if_pos q1, l21, x_below (by omega), bnd_some, ite01, if_neg q2, if_neg q2]
      exact ⟨_, _, _, rfl, rfl, D, R, X, V.1⟩
  · unfold m_X6_taken
    rw [x_isCell X (by omega), bnd_some, ite01, if_neg q1, if_neg q1]
    exact ⟨_, _, _, rfl, rfl, D, R, X, V.1⟩
theorem has_le {D : Nat → Nat → Int} (R : Rg D) {c o : Nat} {u v : Int} (h : u ≤ v) : hasY (upD D 3 c v) o ≤ hasY (upD D 3 c u) o := by
  show sm (fun d => if D 4 d = o then yD (upD D 3 c v) d else 0) (ND D) ≤ sm (fun d => if D 4 d = o then yD (upD D 3 c u) d else 0) (ND D)
  refine sm_le (fun d _ => ?_)
  have e : yD (upD D 3 c v) d ≤ yD (upD D 3 c u) d := by
    show yr (wD D) (hD D) (upD D 3 c v 3) (D 5) d ≤ yr (wD D) (hD D) (upD D 3 c u 3) (D 5) d
    refine yr_le (D5_0 R) (fun g e _ => ?_)
    by_cases q : oth d (e + 1) g = c
    · rw [q, upD_s, upD_s]; exact h
    · rw [upD_n (Or.inr q), upD_n (Or.inr q)]; exact Int.le_refl _
  split
  · exact e
  · exact Int.le_refl _
theorem upD_id {D : Nat → Nat → Int} {k j : Nat} : upD D k j (D k j) = D := by
  funext a b
  unfold upD
  by_cases q : a = k ∧ b = j
  · rw [if_pos q, q.1, q.2]
  · rw [if_neg q]
theorem tk_le {D : Nat → Nat → Int} (R : Rg D) {c o : Nat} {u v : Int} (h : u ≤ v) : tkD D c u o ≤ tkD D c v o := by
  have := has_le (c := c) (o := o) R h
  unfold tkD
  omega
theorem tk_0 {D : Nat → Nat → Int} (R : Rg D) {c o : Nat} : tkD D c 0 o ≤ 0 := by
  have h0 : 0 ≤ D 3 c := (R 3 c).1
  have := has_le (c := c) (o := o) R h0
  rw [upD_id] at this
  unfold tkD
  omega
def tok (D : Nat → Nat → Int) (c : Nat) (z : Int) (v : Nat) : Bool := decide (tkD D c v 0 ≤ z ∧ tkD D c v 1 ≤ z ∧ tkD D c v 2 ≤ z ∧ tkD D c v 3 ≤ z)
theorem tok_mono {D : Nat → Nat → Int} (R : Rg D) {c : Nat} {z : Int} {u v : Nat} (h : u ≤ v) (g : tok D c z v = true) : tok D c z u = true := by
  have f : ∀ o, tkD D c u o ≤ tkD D c v o := fun o => tk_le R (by omega)
  have f0 := f 0
  have f1 := f 1
  have f2 := f 2
  have f3 := f 3
  unfold tok at *
  rw [decide_eq_true_eq] at *
  omega
theorem tok_0 {D : Nat → Nat → Int} (R : Rg D) {c : Nat} {z : Int} (hz : 0 ≤ z) : tok D c z 0 = true := by
  have f : ∀ o, tkD D c (0 : Nat) o ≤ 0 := fun o => tk_0 R
  have f0 := f 0
  have f1 := f 1
  have f2 := f 2
  have f3 := f 3
  unfold tok
  rw [decide_eq_true_eq]
  omega
/-- how many heights from 0 are free -/
def tkN (D : Nat → Nat → Int) (c : Nat) (z : Int) : Nat → Nat
  | 0 => 0
  | v + 1 => if tok D c z v then v + 1 else tkN D c z v
theorem tkN_le (D : Nat → Nat → Int) (c : Nat) (z : Int) : ∀ v, tkN D c z v ≤ v
  | 0 => Nat.le_refl _
  | v + 1 => by
    have := tkN_le D c z v
    rw [tkN]
    split <;> omega
theorem tkN_at {D : Nat → Nat → Int} (R : Rg D) {c : Nat} {z : Int} : ∀ n v, v < n → (tok D c z v = true ↔ v < tkN D c z n)
  | 0, v, h => absurd h (Nat.not_lt_zero _)
  | n + 1, v, h => by
    have l := tkN_le D c z n
    rw [tkN]
    by_cases q : tok D c z n = true
    · rw [if_pos q]
      exact ⟨fun _ => h, fun _ => tok_mono R (by omega) q⟩
    · rw [if_neg q]
      by_cases e : v = n
      · subst e
        exact ⟨fun g => absurd g q, fun g => by omega⟩
      · exact tkN_at R n v (by omega)
def hiD (D : Nat → Nat → Int) (c : Nat) (z : Int) : Int := (tkN D c z 21 : Int) - 1
theorem x_most {S : St} {f : Nat → Int} (hf : ∀ o, -57024 ≤ f o ∧ f o ≤ 57024) (h : ∀ o, o < 4 → gI S 27 o = iI (f o)) : ∃ m : Int, m_X6_mostLost S = some (iI m, S) ∧ -57024 ≤ m ∧ m ≤ 57024 ∧ ∀ z, z < m ↔ ¬ (f 0 ≤ z ∧ f 1 ≤ z ∧ f 2 ≤ z ∧ f 3 ≤ z) := by
  have b0 := hf 0
  unfold m_X6_mostLost
  rw [l0, chk_t (by omega), nm_eq, ix_iI (by omega) (by omega), h _ (by decide)]
  refine it2_inv (fun i x y T => ∃ m, x = iI m ∧ y = iI ((i + 1 : Nat) : Int) ∧ T = S ∧ -57024 ≤ m ∧ m ≤ 57024 ∧ ∀ z, z < m ↔ ∃ o, o ≤ i ∧ z < f o) 3 (fun q => ∃ m : Int, q = some (iI m, S) ∧ -57024 ≤ m ∧ m ≤ 57024 ∧ ∀ z, z < m ↔ ¬ (f 0 ≤ z ∧ f 1 ≤ z ∧ f 2 ≤ z ∧ f 3 ≤ z)) ?_ ?_ 5000 0 _ _ S (Nat.zero_le _) (by omega) ⟨f 0, rfl, rfl, rfl, b0.1, b0.2, fun z => ⟨fun g => ⟨0, Nat.le_refl _, g⟩, fun ⟨o, g1, g2⟩ => by rw [show o = 0 by omega] at g2; exact g2⟩⟩
  · rintro i x y T hi ⟨m, rfl, rfl, rfl, A1, A2, A3⟩ rec
    have bi := hf (i + 1)
    refine ⟨iI (if m < f (i + 1) then f (i + 1) else m), iI ((i + 1 + 1 : Nat) : Int), T, ⟨_, rfl, rfl, rfl, by split <;> omega, by split <;> omega, fun z => ?_⟩, ?_⟩
    · have a3 := A3 z
      constructor
      · intro g
        by_cases q : z < m
        · obtain ⟨o, g1, g2⟩ := a3.mp q
          exact ⟨o, by omega, g2⟩
        · refine ⟨i + 1, Nat.le_refl _, ?_⟩
          split at g <;> omega
      · rintro ⟨o, g1, g2⟩
        by_cases q : o = i + 1
        · subst q
          split <;> omega
        · have := a3.mpr ⟨o, by omega, g2⟩
          split <;> omega
    · unfold b_X6_mostLost_9
      rw [l4, lt_t (by omega), chk_t (by omega), ix_n (by omega), h (i + 1) (by omega), if_lt (by omega), nm_eq, l1, iI_add]
      by_cases q : m < f (i + 1)
      · rw [if_pos q, if_pos q]; rfl
      · rw [if_neg q, if_neg q]; rfl
  · rintro x y T ⟨m, rfl, rfl, rfl, A1, A2, A3⟩ rec
    unfold b_X6_mostLost_9
    rw [l4, lt_f (by omega)]
    refine ⟨m, rfl, A1, A2, fun z => ?_⟩
    rw [A3 z]
    constructor
    · rintro ⟨o, g1, g2⟩ ⟨k0, k1, k2, k3⟩
      rcases (show o = 0 ∨ o = 1 ∨ o = 2 ∨ o = 3 by omega) with rfl | rfl | rfl | rfl <;> omega
    · intro g
      by_cases k0 : z < f 0
      · exact ⟨0, by omega, k0⟩
      · by_cases k1 : z < f 1
        · exact ⟨1, by omega, k1⟩
        · by_cases k2 : z < f 2
          · exact ⟨2, by omega, k2⟩
          · exact ⟨3, by omega, by omega⟩
def p16 (i : Nat) : Nat := if i = 0 then 16 else if i = 1 then 8 else if i = 2 then 4 else if i = 3 then 2 else if i = 4 then 1 else 0
theorem p16_s : ∀ i, i < 5 → (iI (p16 i)) >>> ((1 : Int32) &&& 31) = iI (p16 (i + 1)) := by decide +kernel
theorem p16_b : ∀ i, i < 5 → 1 ≤ p16 i ∧ p16 i ≤ 16 ∧ (2 * p16 (i + 1) = p16 i ∨ (p16 i = 1 ∧ p16 (i + 1) = 0 ∧ i = 4)) := by decide
theorem x_highest {S : St} {D : Nat → Nat → Int} (R : Rg D) (X : RX S D) {c : Nat} {z : Int} (hc : c < ND D) (hz : 0 ≤ z ∧ z < 100000) : ∃ T, m_X6_highest (iI c) (iI z) S = some (iI (hiD D c z), T) ∧ Fr [27] S T := by
  have hN := ND_le (D := D)
  have hK := tkN_le D c z 21
  have at_ := tkN_at R (c := c) (z := z) 21
  have k0 : 0 < tkN D c z 21 := (at_ 0 (by omega)).mp (tok_0 R hz.1)
  unfold m_X6_highest
  rw [x_isCell X (by omega), bnd_some, ite01, if_pos (by omega), l100000, x_below (by omega), bnd_some, ite01, if_pos (by omega)]
  refine it2_inv (fun i x y T => ∃ a : Nat, x = iI a ∧ y = iI (p16 i) ∧ Fr [27] S T ∧ a < tkN D c z 21 ∧ (tkN D c z 21 ≤ a + 2 * p16 i ∨ (i = 5 ∧ tkN D c z 21 ≤ a + 1))) 5 (fun q => ∃ T, q = some (iI (hiD D c z), T) ∧ Fr [27] S T) ?_ ?_ 5000 0 _ _ S (Nat.zero_le _) (by omega) ⟨0, rfl, rfl, Fr.rf, k0, Or.inl (by show _ ≤ 0 + 2 * 16; omega)⟩
  · rintro i x y T hi ⟨a, rfl, rfl, A1, A2, A3⟩ rec
    obtain ⟨b1, b2, b3⟩ := p16_b i hi
    have hs := p16_s i hi
    have XT : RX T D := X.scr (A1.mono (by decide))
    by_cases q : 20 < a + p16 i
    · refine ⟨iI a, iI (p16 (i + 1)), T, ⟨a, rfl, rfl, A1, A2, by omega⟩, ?_⟩
      unfold b_X6_highest_26
      rw [gt0_t (by omega), iI_add, l20, lt_t (by omega), hs, nm_eq]
    · obtain ⟨U, u1, u2, u3⟩ := x_weigh R XT (c := c) (v := ((a + p16 i : Nat) : Int)) hc (by omega)
      obtain ⟨m, m1, m2, m3, m4⟩ := x_most (S := U) (f := fun o => tkD D c ((a + p16 i : Nat) : Int) o) (fun o => tk_bd R (by omega)) u3
      have hm : m ≤ z ↔ a + p16 i < tkN D c z 21 := by
        rw [← at_ (a + p16 i) (by omega)]
        unfold tok
        rw [decide_eq_true_eq]
        have := m4 z
        constructor
        · intro g
          exact Decidable.of_not_not (fun k => absurd (this.mpr k) (by omega))
        · intro g
          exact Int.not_lt.mp (fun k => this.mp k g)
      by_cases q2 : z < m
      · refine ⟨iI a, iI (p16 (i + 1)), U, ⟨a, rfl, rfl, A1.tr u2, A2, by omega⟩, ?_⟩
        unfold b_X6_highest_26
        rw [gt0_t (by omega), iI_add, l20, lt_f (by omega), show ((a : Int) + (p16 i : Int)) = ((a + p16 i : Nat) : Int) by omega, u1, bndV_some, m1, bnd_some, lt_t (by omega), iI_0, iI_add, nm_eq, hs, nm_eq, Int.add_zero]
      · refine ⟨iI ((a + p16 i : Nat) : Int), iI (p16 (i + 1)), U, ⟨a + p16 i, rfl, rfl, A1.tr u2, by omega, by omega⟩, ?_⟩
        unfold b_X6_highest_26
        rw [gt0_t (by omega), iI_add, l20, lt_f (by omega), show ((a : Int) + (p16 i : Int)) = ((a + p16 i : Nat) : Int) by omega, u1, bndV_some, m1, bnd_some, lt_f (by omega), nm_eq, hs, nm_eq]
  · rintro x y T ⟨a, rfl, rfl, A1, A2, A3⟩ rec
    have e0 : p16 5 = 0 := rfl
    unfold b_X6_highest_26
    rw [e0, gt0_f (by omega)]
    refine ⟨T, ?_, A1⟩
    unfold hiD
    rw [show ((tkN D c z 21 : Nat) : Int) - 1 = (a : Int) by omega]
theorem m_hi_in {D : Nat → Nat → Int} (R : Rg D) {c : Nat} {z : Int} {x3 : Int32} {v : Nat} (hc : c < 12) (hz : 0 ≤ z ∧ z < 100000) (hv : v ≤ 20) {S : St} (V : Vw S D) {kk : Int32 → St → Option (Int32 × St)} : ∃ T, it2 (b_X7_highestOf_18 (iI c) (iI z) x3 (iI v) kk) 5000 (1 : Int32) (0 : Int32) S = kk (if tok D c z v then 1 else 0) T ∧ Vw T D := by
  have hb : ∀ o, -57024 ≤ tkD D c v o ∧ tkD D c v o ≤ 57024 := fun o => tk_bd R (by omega)
  refine it2_inv (fun i x y T => x = (if ∀ o, o < i → tkD D c v o ≤ z then iI 1 else iI 0) ∧ y = iI (i : Int) ∧ Vw T D) 4 (fun q => ∃ T, q = kk (if tok D c z v then 1 else 0) T ∧ Vw T D) ?_ ?_ 5000 0 _ _ S (Nat.zero_le _) (by omega) ⟨by rw [if_pos (fun o ho => absurd ho (Nat.not_lt_zero _))]; rfl, rfl, V⟩
  · rintro i x y T hi ⟨rfl, rfl, A1⟩ rec
    unfold b_X7_highestOf_18
    by_cases q : ∀ o, o < i → tkD D c v o ≤ z
    · obtain ⟨U, u1, u2⟩ := m_taken R A1.1 (c := c) (o := i) (v := v) hc hi (by omega)
      have bi := hb i
      refine ⟨_, _, U, ⟨rfl, rfl, u2⟩, ?_⟩
      rw [l4, lt_t (by omega), if_pos q, eq0_f (by omega), u1, bnd_some, if_lt (by omega), l1, iI_add]
      by_cases q2 : z < tkD D c v i
      · rw [if_pos q2, if_neg (fun g => absurd (g i (by omega)) (by omega))]
        rfl
      · rw [if_neg q2, if_pos (fun o ho => by
          by_cases e : o = i
          · rw [e]; omega
          · exact q o (by omega))]
        rfl
    · refine ⟨_, _, T, ⟨rfl, rfl, A1⟩, ?_⟩
      rw [l4, lt_t (by omega), if_neg q, eq0_t rfl, l1, iI_add, if_neg (fun g => q (fun o ho => g o (by omega)))]
      rfl
  · rintro x y T ⟨rfl, rfl, A1⟩ rec
    unfold b_X7_highestOf_18
    refine ⟨T, ?_, A1⟩
    rw [l4, lt_f (by omega)]
    congr 1
    unfold tok
    by_cases q : ∀ o, o < 4 → tkD D c v o ≤ z
    · rw [if_pos q, if_pos (decide_eq_true ⟨q 0 (by omega), q 1 (by omega), q 2 (by omega), q 3 (by omega)⟩)]
      rfl
    · rw [if_neg q, if_neg]
      · rfl
      · rw [decide_eq_true_eq]
        rintro ⟨k0, k1, k2, k3⟩
        refine q (fun o ho => ?_)
        rcases (show o = 0 ∨ o = 1 ∨ o = 2 ∨ o = 3 by omega) with rfl | rfl | rfl | rfl
        · exact k0
        · exact k1
        · exact k2
        · exact k3
theorem m_highest {S : St} {D : Nat → Nat → Int} (R : Rg D) (V : Vw S D) {c : Nat} {z : Int} (hc : c < 12) (hz : 0 ≤ z ∧ z < 100000) : ∃ T, m_X7_highestOf (iI c) (iI z) S = some (iI (hiD D c z), T) ∧ Vw T D := by
  unfold m_X7_highestOf
  refine it2_inv (fun i x y T => x = iI ((tkN D c z i : Int) - 1) ∧ y = iI (i : Int) ∧ Vw T D) 21 (fun q => ∃ T, q = some (iI (hiD D c z), T) ∧ Vw T D) ?_ ?_ 5000 0 _ _ S (Nat.zero_le _) (by omega) ⟨rfl, rfl, V⟩
  · rintro i x y T hi ⟨rfl, rfl, A1⟩ rec
    have hK := tkN_le D c z i
    unfold b_X7_highestOf_5
    obtain ⟨U, u1, u2⟩ := m_hi_in R (c := c) (z := z) (x3 := iI ((tkN D c z i : Int) - 1)) (v := i) hc hz (by omega) A1 (kk := fun x5_S3 S3 => if x5_S3 = 0 then rec (iI ((tkN D c z i : Int) - 1)) (iI i + 1) S3 else rec (iI i) (iI i + 1) S3)
    refine ⟨iI ((tkN D c z (i + 1) : Int) - 1), iI ((i + 1 : Nat) : Int), U, ⟨rfl, rfl, u2⟩, ?_⟩
    rw [l20, lt_f (by omega), u1, tkN]
    by_cases q : tok D c z i = true
    · rw [if_pos q, if_neg (by decide), if_pos q, l1, iI_add, show (((i + 1 : Nat) : Int) - 1) = (i : Int) by omega]
      rfl
    · rw [if_neg q, if_pos rfl, if_neg q, l1, iI_add]
      rfl
  · rintro x y T ⟨rfl, rfl, A1⟩ rec
    unfold b_X7_highestOf_5
    rw [l20, lt_t (by omega)]
    exact ⟨T, rfl, A1⟩
theorem ag_highest : Ag_highest Rel := by
  rintro SX SM ⟨D, R, X, M⟩ x1 x2
  obtain ⟨a, rfl, a1, a2⟩ := iI_of x1
  obtain ⟨z, rfl, z1, z2⟩ := iI_of x2
  have hN := ND_le (D := D)
  obtain ⟨T, t1, V⟩ := m_isCell R M (a := a) (by omega)
  unfold m_X7_highest
  rw [t1, bnd_some, ite01]
  by_cases q1 : 0 ≤ a ∧ a < ND D
  · rw [if_pos q1, m_inN (n := 100000) l99999 (by omega), bnd_some, ite01]
    by_cases q2 : 0 ≤ z ∧ z < 100000
    · obtain ⟨c, rfl⟩ : ∃ c : Nat, a = c := ⟨a.toNat, by omega⟩
      obtain ⟨T1, f1, f2⟩ := x_highest R X (c := c) (z := z) (by omega) q2
      obtain ⟨T2, g1, g2⟩ := m_highest R V (c := c) (z := z) (by omega) q2
      rw [if_pos q2, f1, g1, bnd_some]
      exact ⟨_, _, _, rfl, rfl, D, R, X.scr (f2.mono (by decide)), g2.1⟩
    · unfold m_X6_highest
      rw [x_isCell X (by omega), bnd_some, ite01, if_pos q1, l100000, x_below (by omega), bnd_some, ite01, if_neg q2, if_neg q2]
      exact ⟨_, _, _, rfl, rfl, D, R, X, V.1⟩
  · unfold m_X6_highest
    rw [x_isCell X (by omega), bnd_some, ite01, if_neg q1, if_neg q1]
    exact ⟨_, _, _, rfl, rfl, D, R, X, V.1⟩
