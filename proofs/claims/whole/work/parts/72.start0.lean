/-! a new object on both sides -/
def D0 (k j : Nat) : Int := if k = 5 then (if j < 4 then 90 else 0) else if k = 6 then (if j < 4 then 4 else 0) else if k = 7 then (if j < 16 then 1 else 0) else if k = 8 then (if j < 3 then 1000 else 0) else if k = 9 then (if j = 0 then 10 else if j = 1 then 20 else if j = 2 then 30 else 0) else 0
theorem lo0 (k : Nat) : loT k ≤ 0 := by
  unfold loT
  split <;> omega
theorem hi0 (k : Nat) : 0 ≤ hiT k := by
  unfold hiT
  split <;> omega
theorem D0_R : Rg D0 := by
  intro k j
  unfold D0
  by_cases h5 : k = 5
  · subst h5
    rw [if_pos rfl]
    show (0 : Int) ≤ _ ∧ _ ≤ (99 : Int)
    split <;> omega
  · by_cases h6 : k = 6
    · subst h6
      rw [if_neg (by decide), if_pos rfl]
      show (0 : Int) ≤ _ ∧ _ ≤ (16 : Int)
      split <;> omega
    · by_cases h7 : k = 7
      · subst h7
        rw [if_neg (by decide), if_neg (by decide), if_pos rfl]
        show (0 : Int) ≤ _ ∧ _ ≤ (9 : Int)
        split <;> omega
      · by_cases h8 : k = 8
        · subst h8
          rw [if_neg (by decide), if_neg (by decide), if_neg (by decide), if_pos rfl]
          show (0 : Int) ≤ _ ∧ _ ≤ (9999 : Int)
          split <;> omega
        · by_cases h9 : k = 9
          · subst h9
            rw [if_neg (by decide), if_neg (by decide), if_neg (by decide), if_neg (by decide), if_pos rfl]
            show (0 : Int) ≤ _ ∧ _ ≤ (99 : Int)
            split
            · omega
            · split
              · omega
              · split <;> omega
          · rw [if_neg h5, if_neg h6, if_neg h7, if_neg h8, if_neg h9]
            exact ⟨lo0 k, hi0 k⟩
theorem S0X_at : ∀ j, j < 20 → gI S0X 7 j = iI (D0 1 j) ∧ (j < 12 → gI S0X 10 j = iI (D0 3 j) ∧ gI S0X 25 j = iI (D0 4 j)) ∧ (j < 4 → gI S0X 11 j = iI (D0 5 j) ∧ gI S0X 31 j = iI (D0 6 j) ∧ gI S0X 23 j = iI (D0 18 j) ∧ gI S0X 24 j = iI (-1)) ∧ (j < 3 → gI S0X 17 j = iI (D0 8 j) ∧ gI S0X 18 j = iI (D0 9 j)) ∧ (j < 8 → gI S0X 29 j = iI (D0 14 j) ∧ gI S0X 30 j = iI (D0 15 j)) ∧ (j < 1 → gI S0X 40 j = iI (D0 40 j) ∧ gI S0X 54 j = iI (D0 44 j) ∧ gI S0X 55 j = iI (D0 45 j)) := by decide +kernel
theorem S0M_at : ∀ j, j < 20 → gI S0M 1 j = iI (D0 1 j) ∧ (j < 12 → gI S0M 3 j = iI (D0 3 j) ∧ gI S0M 4 j = iI (D0 4 j)) ∧ (j < 4 → gI S0M 5 j = iI (D0 5 j) ∧ gI S0M 6 j = iI (D0 6 j) ∧ gI S0M 18 j = iI (D0 18 j) ∧ gI S0M 17 j = iI (D0 17 j)) ∧ (j < 3 → gI S0M 8 j = iI (D0 8 j) ∧ gI S0M 9 j = iI (D0 9 j)) ∧ (j < 8 → gI S0M 14 j = iI (D0 14 j) ∧ gI S0M 15 j = iI (D0 15 j)) ∧ (j < 1 → gI S0M 40 j = iI (D0 40 j) ∧ gI S0M 44 j = iI (D0 44 j) ∧ gI S0M 45 j = iI (D0 45 j)) ∧ (j < 16 → gI S0M 7 j = iI (D0 7 j)) := by decide +kernel
theorem x_fill26 {S : St} : ∃ T, m_J7_fill_53178_26 (1 : Int32) S = some T ∧ Fr [26] S T ∧ ∀ o, o < 16 → gI T 26 o = iI 1 := by
  unfold m_J7_fill_53178_26
  refine it1_inv (fun i x T => x = iI (i : Int) ∧ Fr [26] S T ∧ ∀ o, o < i → gI T 26 o = iI 1) 16 (fun o => ∃ T, o = some T ∧ Fr [26] S T ∧ ∀ o, o < 16 → gI T 26 o = iI 1) ?_ ?_ 5000 0 _ _ (Nat.zero_le _) (by omega) ⟨rfl, Fr.rf, fun k hk => absurd hk (Nat.not_lt_zero _)⟩
  · rintro i x T hi ⟨rfl, A1, A2⟩ rec
    refine ⟨iI ((i + 1 : Nat) : Int), sI T 26 i (iI 1), ⟨rfl, A1.set (by decide), fun k hk => ?_⟩, ?_⟩
    · rw [gI_sI_k]
      by_cases e : k = i
      · rw [if_pos e]
      · rw [if_neg e]; exact A2 k (by omega)
    · unfold b_J7_fill_53178_26_5
      rw [l16, lt_t (by omega), chk_t (by omega), ix_n (by omega), nm_eq, l1, iI_add]
      rfl
  · rintro x T ⟨rfl, A1, A2⟩ rec
    unfold b_J7_fill_53178_26_5
    rw [l16, lt_f (by omega)]
    exact ⟨T, rfl, A1, A2⟩
theorem rel_start : ∃ S1, m_J7_fill_53178_26 1 S0X = some S1 ∧ Rel S1 S0M := by
  obtain ⟨T, t1, t2, t3⟩ := x_fill26 (S := S0X)
  have z17 : ∀ s, ¬ D0 17 s = 1 := fun s => by show ¬ (0 : Int) = 1; decide
  refine ⟨T, t1, D0, D0_R, ⟨fun k j hj => ?_, ⟨fun s hs => ?_, fun s hs hq => absurd hq (z17 s)⟩, ⟨⟨?_, ?_, ?_, ?_, ?_⟩, ⟨?_, ?_⟩⟩, ?_, ?_⟩, ⟨fun k j hj => ?_, ⟨fun s hs => ?_, fun s hs hq => absurd hq (z17 s), fun s hs hq => absurd hq (z17 s)⟩⟩⟩
  · have hp := phi_list (k := k) (by omega)
    simp only [List.mem_cons, List.not_mem_nil, or_false] at hp
    rcases hp with rfl | rfl | rfl | rfl | rfl | rfl | rfl | rfl | rfl | rfl | rfl | rfl | rfl | rfl
    · have hj : j < 20 := hj
      exact (t2.1 _ _ (by decide)).trans (S0X_at j (by omega)).1
    · have hj : j < 12 := hj
      exact (t2.1 _ _ (by decide)).trans ((S0X_at j (by omega)).2.1 hj).1
    · have hj : j < 12 := hj
      exact (t2.1 _ _ (by decide)).trans ((S0X_at j (by omega)).2.1 hj).2
    · have hj : j < 4 := hj
      exact (t2.1 _ _ (by decide)).trans ((S0X_at j (by omega)).2.2.1 hj).1
    · have hj : j < 4 := hj
      exact (t2.1 _ _ (by decide)).trans ((S0X_at j (by omega)).2.2.1 hj).2.1
    · have hj : j < 16 := hj
      have e : D0 7 j = 1 := by show (if j < 16 then (1 : Int) else 0) = 1; rw [if_pos hj]
      rw [e]
      exact t3 j hj
    · have hj : j < 3 := hj
      exact (t2.1 _ _ (by decide)).trans ((S0X_at j (by omega)).2.2.2.1 hj).1
    · have hj : j < 3 := hj
      exact (t2.1 _ _ (by decide)).trans ((S0X_at j (by omega)).2.2.2.1 hj).2
    · have hj : j < 8 := hj
      exact (t2.1 _ _ (by decide)).trans ((S0X_at j (by omega)).2.2.2.2.1 hj).1
    · have hj : j < 8 := hj
      exact (t2.1 _ _ (by decide)).trans ((S0X_at j (by omega)).2.2.2.2.1 hj).2
    · have hj : j < 4 := hj
      exact (t2.1 _ _ (by decide)).trans ((S0X_at j (by omega)).2.2.1 hj).2.2.1
    · have hj : j < 1 := hj
      exact (t2.1 _ _ (by decide)).trans ((S0X_at j (by omega)).2.2.2.2.2 hj).1
    · have hj : j < 1 := hj
      exact (t2.1 _ _ (by decide)).trans ((S0X_at j (by omega)).2.2.2.2.2 hj).2.1
    · have hj : j < 1 := hj
      exact (t2.1 _ _ (by decide)).trans ((S0X_at j (by omega)).2.2.2.2.2 hj).2.2
  · rw [if_neg (z17 s)]
    exact (t2.1 _ _ (by decide)).trans ((S0X_at s (by omega)).2.2.1 hs).2.2.2
  · exact (t2.1 _ _ (by decide)).trans (by decide +kernel)
  · exact (t2.1 _ _ (by decide)).trans (by decide +kernel)
  · exact (t2.1 _ _ (by decide)).trans (by decide +kernel)
  · exact (t2.1 _ _ (by decide)).trans (by decide +kernel)
  · intro c hc
    exact absurd hc (by rw [show wd (D0 1) (nD D0) * rw_ (D0 1) (nD D0) = 0 by decide +kernel]; exact Nat.not_lt_zero _)
  · intro c hc
    exact absurd hc (by rw [show ND D0 = 0 by decide +kernel]; exact Nat.not_lt_zero _)
  · intro c hc
    exact absurd hc (by rw [show ND D0 = 0 by decide +kernel]; exact Nat.not_lt_zero _)
  · exact Or.inl ((t2.1 _ _ (by decide)).trans (by decide +kernel))
  · exact Or.inl ((t2.1 _ _ (by decide)).trans (by decide +kernel))
  · have hp := phi_list (k := k) (by omega)
    simp only [List.mem_cons, List.not_mem_nil, or_false] at hp
    rcases hp with rfl | rfl | rfl | rfl | rfl | rfl | rfl | rfl | rfl | rfl | rfl | rfl | rfl | rfl
    · have hj : j < 20 := hj
      exact (S0M_at j (by omega)).1
    · have hj : j < 12 := hj
      exact ((S0M_at j (by omega)).2.1 hj).1
    · have hj : j < 12 := hj
      exact ((S0M_at j (by omega)).2.1 hj).2
    · have hj : j < 4 := hj
      exact ((S0M_at j (by omega)).2.2.1 hj).1
    · have hj : j < 4 := hj
      exact ((S0M_at j (by omega)).2.2.1 hj).2.1
    · have hj : j < 16 := hj
      exact (S0M_at j (by omega)).2.2.2.2.2.2 hj
    · have hj : j < 3 := hj
      exact ((S0M_at j (by omega)).2.2.2.1 hj).1
    · have hj : j < 3 := hj
      exact ((S0M_at j (by omega)).2.2.2.1 hj).2
    · have hj : j < 8 := hj
      exact ((S0M_at j (by omega)).2.2.2.2.1 hj).1
    · have hj : j < 8 := hj
      exact ((S0M_at j (by omega)).2.2.2.2.1 hj).2
    · have hj : j < 4 := hj
      exact ((S0M_at j (by omega)).2.2.1 hj).2.2.1
    · have hj : j < 1 := hj
      exact ((S0M_at j (by omega)).2.2.2.2.2.1 hj).1
    · have hj : j < 1 := hj
      exact ((S0M_at j (by omega)).2.2.2.2.2.1 hj).2.1
    · have hj : j < 1 := hj
      exact ((S0M_at j (by omega)).2.2.2.2.2.1 hj).2.2
  · exact ((S0M_at s (by omega)).2.2.1 hs).2.2.2
