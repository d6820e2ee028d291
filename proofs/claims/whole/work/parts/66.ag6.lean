/-! the sheets: sheet, lose, put, get -/
theorem RX.it {S T : St} {D E : Nat → Nat → Int} (h : RX S D) (F : Fr [22, 23, 24] S T) (hE : ∀ k, k ∉ [17, 18, 19, 20] → E k = D k) (h18 : ∀ j, j < 4 → gI T 23 j = iI (E 18 j)) (hI : ItX T E) : RX T E := by
  obtain ⟨h1, h2, ⟨h3, h4⟩, h5, h6⟩ := h
  have e1 := hE 1 (by decide)
  have e3 := hE 3 (by decide)
  have e5 := hE 5 (by decide)
  have e8 := hE 8 (by decide)
  have e9 := hE 9 (by decide)
  have e40 := hE 40 (by decide)
  have en : nD E = nD D := by unfold nD; rw [e40]
  have ew : wD E = wD D := by unfold wD; rw [e1, en]
  have eN : ND E = ND D := by unfold ND rD; rw [ew, e1, en]
  have eh : hD E = hD D := by funext c; unfold hD; rw [eN, e1, ew]
  have ey : yD E = yD D := by funext c; unfold yD; rw [ew, eh, e3, e5]
  refine ⟨fun k j hj => ?_, hI, ⟨?_, ?_⟩, ?_, ?_⟩
  · by_cases q : k = 18
    · subst q
      exact h18 j hj
    · have hp := phi_list (k := k) (by omega)
      have hk : k ∉ [17, 18, 19, 20] := by
        simp only [List.mem_cons, List.not_mem_nil, or_false] at hp ⊢
        omega
      have hph : phi k ∉ [22, 23, 24] := by
        simp only [List.mem_cons, List.not_mem_nil, or_false] at hp
        rcases hp with rfl | rfl | rfl | rfl | rfl | rfl | rfl | rfl | rfl | rfl | rfl | rfl | rfl | rfl <;> first | decide | exact absurd rfl q
      rw [F.1 _ _ hph, h1 k j hj, hE k hk]
  · rw [e1, en]; exact h3.fr F (by decide)
  · rw [ew, eN, eh, e3, e5]; exact h4.fr F (by decide)
  · have := h5.fr F (by decide)
    unfold Pk dfD fpD at *
    rw [ew, eN, ey]; exact this
  · have := h6.fr F (by decide)
    unfold Pl moD soD at *
    rw [e8, e9, eN, ey]; exact this
theorem RM_.it {S T : St} {D E : Nat → Nat → Int} {K : List Nat} (h : RM_ S D) (F : Fr K S T) (hK : ∀ a ∈ [1, 3, 4, 5, 6, 7, 8, 9, 14, 15, 40, 44, 45], a ∉ K) (hE : ∀ k, k ∉ [17, 18, 19, 20] → E k = D k) (h18 : ∀ j, j < 4 → gI T 18 j = iI (E 18 j)) (hI : ItM T E) : RM_ T E := by
  refine ⟨fun k j hj => ?_, hI⟩
  by_cases q : k = 18
  · subst q
    exact h18 j hj
  · have hp := phi_list (k := k) (by omega)
    have hk : k ∉ [17, 18, 19, 20] := by
      simp only [List.mem_cons, List.not_mem_nil, or_false] at hp ⊢
      omega
    have hk2 : k ∈ [1, 3, 4, 5, 6, 7, 8, 9, 14, 15, 40, 44, 45] := by
      simp only [List.mem_cons, List.not_mem_nil, or_false] at hp ⊢
      omega
    rw [F.1 _ _ (hK k hk2), h.1 k j hj, hE k hk]
theorem x_found {S : St} {k : Int} : m_X6_found (iI k) S = some (iI (-10 - k), sI S 55 0 (iI k)) := by
  unfold m_X6_found
  rw [nm_eq, lm10, iI_sub]
theorem m_meets {S : St} {k : Int} : m_X7_meets (iI k) S = some (iI (-10 - k), sI S 45 0 (iI k)) := by
  unfold m_X7_meets
  rw [nm_eq, lm10, iI_sub]
theorem rel_found {SX SM : St} {D : Nat → Nat → Int} (R : Rg D) (X : RX SX D) (M : RM_ SM D) {k : Int} (hk : 0 ≤ k ∧ k ≤ 5) : Rel (sI SX 55 0 (iI k)) (sI SM 45 0 (iI k)) := ⟨upD D 45 0 k, R.up (show 0 ≤ k ∧ k ≤ 5 from hk), X.up (k := 45) 0 k (by decide), M.up 0 k (by decide)⟩
theorem x_lost {S : St} {D : Nat → Nat → Int} (R : Rg D) (X : RX S D) {s : Nat} (hs : s < 4) : m_X4_isLost (iI s) S = some (if D 17 s = 1 then 0 else 1, S) := by
  have r : 0 ≤ D 19 s ∧ D 19 s ≤ 48 := R 19 s
  unfold m_X4_isLost
  rw [chk_t (by omega), ix_n (by omega), X.2.1.1 s hs]
  by_cases q : D 17 s = 1
  · rw [if_pos q, if_pos q, eqm_f (by omega)]
  · rw [if_neg q, if_neg q, eqm_t rfl]
theorem ite10 {α : Type} {c : Prop} [Decidable c] {x y : α} : (if (if c then (0 : Int32) else 1) = 0 then x else y) = if c then x else y := by
  by_cases h : c
  · rw [if_pos h, if_pos h, if_pos rfl]
  · rw [if_neg h, if_neg h, if_neg (by decide)]
theorem x_size {S : St} {D : Nat → Nat → Int} (X : RX S D) {s : Nat} (hs : s < 4) (h : D 17 s = 1) : m_X4_sizeOf (iI s) S = some (iI (D 19 s), S) := by
  unfold m_X4_sizeOf
  rw [chk_t (by omega), ix_n (by omega), X.2.1.1 s hs, if_pos h]
def Dlay (D : Nat → Nat → Int) (s : Nat) (f n : Int) : Nat → Nat → Int := fun a b => if a = 17 ∧ b = s then 1 else if a = 18 ∧ b = s then f else if a = 19 ∧ b = s then n else if a = 20 ∧ 48 * s ≤ b ∧ b < 48 * s + 48 then 0 else D a b
theorem Dlay_o {D : Nat → Nat → Int} {s : Nat} {f n : Int} (k : Nat) (h : k ∉ [17, 18, 19, 20]) : Dlay D s f n k = D k := by
  simp only [List.mem_cons, List.not_mem_nil, or_false, not_or] at h
  funext b
  unfold Dlay
  rw [if_neg (fun z => h.1 z.1), if_neg (fun z => h.2.1 z.1), if_neg (fun z => h.2.2.1 z.1), if_neg (fun z => h.2.2.2 z.1)]
theorem Dlay_17 {D : Nat → Nat → Int} {s b : Nat} {f n : Int} : Dlay D s f n 17 b = if b = s then 1 else D 17 b := by
  unfold Dlay
  by_cases q : b = s
  · rw [if_pos ⟨rfl, q⟩, if_pos q]
  · rw [if_neg (fun z => q z.2), if_neg (by omega), if_neg (by omega), if_neg (by omega), if_neg q]
theorem Dlay_18 {D : Nat → Nat → Int} {s b : Nat} {f n : Int} : Dlay D s f n 18 b = if b = s then f else D 18 b := by
  unfold Dlay
  by_cases q : b = s
  · rw [if_neg (by omega), if_pos ⟨rfl, q⟩, if_pos q]
  · rw [if_neg (by omega), if_neg (fun z => q z.2), if_neg (by omega), if_neg (by omega), if_neg q]
theorem Dlay_19 {D : Nat → Nat → Int} {s b : Nat} {f n : Int} : Dlay D s f n 19 b = if b = s then n else D 19 b := by
  unfold Dlay
  by_cases q : b = s
  · rw [if_neg (by omega), if_neg (by omega), if_pos ⟨rfl, q⟩, if_pos q]
  · rw [if_neg (by omega), if_neg (by omega), if_neg (fun z => q z.2), if_neg (by omega), if_neg q]
theorem Dlay_20 {D : Nat → Nat → Int} {s b : Nat} {f n : Int} : Dlay D s f n 20 b = if 48 * s ≤ b ∧ b < 48 * s + 48 then 0 else D 20 b := by
  unfold Dlay
  rw [if_neg (by omega), if_neg (by omega), if_neg (by omega)]
  by_cases q : 48 * s ≤ b ∧ b < 48 * s + 48
  · rw [if_pos ⟨rfl, q⟩, if_pos q]
  · rw [if_neg (fun z => q z.2), if_neg q]
theorem Dlay_R {D : Nat → Nat → Int} (R : Rg D) {s : Nat} {f n : Int} (hf : 0 ≤ f ∧ f ≤ 2) (hn : 0 ≤ n ∧ n ≤ 48) : Rg (Dlay D s f n) := by
  intro k j
  by_cases q : k ∈ [17, 18, 19, 20]
  · simp only [List.mem_cons, List.not_mem_nil, or_false] at q
    rcases q with rfl | rfl | rfl | rfl
    · rw [Dlay_17]; split
      · decide
      · exact R 17 j
    · rw [Dlay_18]; split
      · exact hf
      · exact R 18 j
    · rw [Dlay_19]; split
      · exact hn
      · exact R 19 j
    · rw [Dlay_20]; split
      · decide
      · exact R 20 j
  · rw [Dlay_o k q]; exact R k j
theorem ag_sheet : Ag_sheet Rel := by
  rintro SX SM ⟨D, R, X, M⟩ x1 x2 x3
  obtain ⟨a, rfl, a1, a2⟩ := iI_of x1
  obtain ⟨f, rfl, f1, f2⟩ := iI_of x2
  obtain ⟨n, rfl, n1, n2⟩ := iI_of x3
  unfold m_X6_sheet m_X7_sheet
  rw [l4, x_below (by omega), bnd_some, ite01, m_sheet (by omega), bnd_some, ite01]
  by_cases q1 : 0 ≤ a ∧ a < 4
  · rw [if_pos q1, if_pos q1, l3, x_below (by omega), bnd_some, ite01, m_inN (n := 3) l2 (by omega), bnd_some, ite01]
    by_cases q2 : 0 ≤ f ∧ f < 3
    · rw [if_pos q2, if_pos q2, l48, if_lt (by omega), if_lt (by omega)]
      by_cases q3 : 48 < n
      · rw [if_pos q3, if_pos q3]
        exact ⟨_, _, _, rfl, rfl, D, R, X, M⟩
      · rw [if_neg q3, if_neg q3]
        by_cases q4 : n < 0
        · rw [lt0_t (by omega), lt0_t (by omega), l5, x_found, bnd_some, m_meets, bnd_some]
          exact ⟨_, _, _, rfl, rfl, rel_found R X M (by omega)⟩
        · rw [lt0_f (by omega), lt0_f (by omega)]
          obtain ⟨s, rfl⟩ : ∃ s : Nat, a = s := ⟨a.toNat, by omega⟩
          -- the class
          have hx : ∃ T, m_X4_lay (iI s) (iI f) (iI n) SX = some T ∧ Fr [22, 23, 24] SX T ∧ (∀ j, gI T 23 j = if j = s then iI f else gI SX 23 j) ∧ (∀ j, gI T 24 j = if j = s then iI n else gI SX 24 j) ∧ (∀ i : Nat, (i : Int) < n → gI T 22 (48 * s + i) = iI 0) ∧ ∀ j, (j < 48 * s ∨ 48 * s + 48 ≤ j) → gI T 22 j = gI SX 22 j := by
            unfold m_X4_lay
            rw [chk_t (by omega), ix_n (by omega), nm_eq, chk_t (by omega), nm_eq]
            refine it1_inv (fun i x T => x = iI (i : Int) ∧ Fr [22, 23, 24] SX T ∧ (∀ j, gI T 23 j = if j = s then iI f else gI SX 23 j) ∧ (∀ j, gI T 24 j = if j = s then iI n else gI SX 24 j) ∧ (∀ k : Nat, k < i → gI T 22 (48 * s + k) = iI 0) ∧ ∀ j, (j < 48 * s ∨ 48 * s + 48 ≤ j) → gI T 22 j = gI SX 22 j) n.toNat (fun o => ∃ T, o = some T ∧ Fr [22, 23, 24] SX T ∧ (∀ j, gI T 23 j = if j = s then iI f else gI SX 23 j) ∧ (∀ j, gI T 24 j = if j = s then iI n else gI SX 24 j) ∧ (∀ i : Nat, (i : Int) < n → gI T 22 (48 * s + i) = iI 0) ∧ ∀ j, (j < 48 * s ∨ 48 * s + 48 ≤ j) → gI T 22 j = gI SX 22 j) ?_ ?_ 5000 0 _ _ (Nat.zero_le _) (by omega) ⟨rfl, (Fr.rf.set (by decide)).set (by decide), fun j => ?_, fun j => ?_, fun k hk => absurd hk (Nat.not_lt_zero _), fun j hj => ?_⟩
            · rintro i x T hi ⟨rfl, A1, A2, A3, A4, A5⟩ rec
              refine ⟨iI ((i + 1 : Nat) : Int), sI T 22 (48 * s + i) (iI 0), ⟨rfl, A1.set (by decide), fun j => ?_, fun j => ?_, fun k hk => ?_, fun j hj => ?_⟩, ?_⟩
              · rw [gI_sI_n (by decide), A2]
              · rw [gI_sI_n (by decide), A3]
              · rw [gI_sI_k]
                by_cases e : k = i
                · rw [e, if_pos rfl]
                · rw [if_neg (by omega)]; exact A4 k (by omega)
              · rw [gI_sI_k, if_neg (by omega)]; exact A5 j hj
              · unfold b_X4_lay_17
                rw [lt_t (by omega), l48, iI_mul, iI_add, show ((s : Int) * 48 + (i : Int)) = ((48 * s + i : Nat) : Int) by push_cast; omega, chk_t (by omega), ix_n (by omega), nm_eq, l1, iI_add]
                rfl
            · rintro x T ⟨rfl, A1, A2, A3, A4, A5⟩ rec
              unfold b_X4_lay_17
              rw [lt_f (by omega)]
              exact ⟨T, rfl, A1, A2, A3, fun i hi => A4 i (by omega), A5⟩
            · rw [gI_sI_n (by decide), gI_sI_k]
            · rw [gI_sI_k, gI_sI_n (by decide)]
            · rw [gI_sI_n (by decide), gI_sI_n (by decide)]
          obtain ⟨T, t1, t2, t3, t4, t5, t6⟩ := hx
          rw [t1, bndV_some]
          -- the reference
          have hm : ∃ U, it1 (b_X7_sheet_59 (iI s) (iI n) (fun S9 => some (iI n, S9))) 5000 (0 : Int32) (sI (sI (sI SM 17 s 1) 18 s (iI f)) 19 s (iI n)) = some (iI n, U) ∧ Fr [17, 18, 19, 20] SM U ∧ (∀ j, gI U 17 j = if j = s then iI 1 else gI SM 17 j) ∧ (∀ j, gI U 18 j = if j = s then iI f else gI SM 18 j) ∧ (∀ j, gI U 19 j = if j = s then iI n else gI SM 19 j) ∧ (∀ i : Nat, i < 48 → gI U 20 (48 * s + i) = iI 0) ∧ ∀ j, (j < 48 * s ∨ 48 * s + 48 ≤ j) → gI U 20 j = gI SM 20 j := by
            refine it1_inv (fun i x U => x = iI (i : Int) ∧ Fr [17, 18, 19, 20] SM U ∧ (∀ j, gI U 17 j = if j = s then iI 1 else gI SM 17 j) ∧ (∀ j, gI U 18 j = if j = s then iI f else gI SM 18 j) ∧ (∀ j, gI U 19 j = if j = s then iI n else gI SM 19 j) ∧ (∀ k : Nat, k < i → gI U 20 (48 * s + k) = iI 0) ∧ ∀ j, (j < 48 * s ∨ 48 * s + 48 ≤ j) → gI U 20 j = gI SM 20 j) 48 (fun o => ∃ U, o = some (iI n, U) ∧ Fr [17, 18, 19, 20] SM U ∧ (∀ j, gI U 17 j = if j = s then iI 1 else gI SM 17 j) ∧ (∀ j, gI U 18 j = if j = s then iI f else gI SM 18 j) ∧ (∀ j, gI U 19 j = if j = s then iI n else gI SM 19 j) ∧ (∀ i : Nat, i < 48 → gI U 20 (48 * s + i) = iI 0) ∧ ∀ j, (j < 48 * s ∨ 48 * s + 48 ≤ j) → gI U 20 j = gI SM 20 j) ?_ ?_ 5000 0 _ _ (Nat.zero_le _) (by omega) ⟨rfl, ((Fr.rf.set (by decide)).set (by decide)).set (by decide), fun j => ?_, fun j => ?_, fun j => ?_, fun k hk => absurd hk (Nat.not_lt_zero _), fun j hj => ?_⟩
            · rintro i x U hi ⟨rfl, A1, A2, A3, A3', A4, A5⟩ rec
              refine ⟨iI ((i + 1 : Nat) : Int), sI U 20 (48 * s + i) (iI 0), ⟨rfl, A1.set (by decide), fun j => ?_, fun j => ?_, fun j => ?_, fun k hk => ?_, fun j hj => ?_⟩, ?_⟩
              · rw [gI_sI_n (by decide), A2]
              · rw [gI_sI_n (by decide), A3]
              · rw [gI_sI_n (by decide), A3']
              · rw [gI_sI_k]
                by_cases e : k = i
                · rw [e, if_pos rfl]
                · rw [if_neg (by omega)]; exact A4 k (by omega)
              · rw [gI_sI_k, if_neg (by omega)]; exact A5 j hj
              · unfold b_X7_sheet_59
                rw [l48, lt_t (by omega), iI_mul, iI_add, show ((48 : Int) * (s : Int) + (i : Int)) = ((48 * s + i : Nat) : Int) by push_cast; omega, chk_t (by omega), ix_n (by omega), nm_eq, l1, iI_add]
                rfl
            · rintro x U ⟨rfl, A1, A2, A3, A3', A4, A5⟩ rec
              unfold b_X7_sheet_59
              rw [l48, lt_f (by omega)]
              exact ⟨U, rfl, A1, A2, A3, A3', A4, A5⟩
            · rw [gI_sI_n (by decide), gI_sI_n (by decide), gI_sI_k]; rfl
            · rw [gI_sI_n (by decide), gI_sI_k, gI_sI_n (by decide)]
            · rw [gI_sI_k, gI_sI_n (by decide), gI_sI_n (by decide)]
            · rw [gI_sI_n (by decide), gI_sI_n (by decide), gI_sI_n (by decide)]
          obtain ⟨U, u1, u2, u3, u4, u5, u6, u7⟩ := hm
          simp only [nm_eq, chk_t (a := (s : Int)) (n := 4) (by omega), ix_n (c := s) (by omega)]
          rw [u1]
          refine ⟨_, _, _, rfl, rfl, Dlay D s f n, Dlay_R R (by omega) (by omega), X.it t2 Dlay_o (fun j hj => ?_) ⟨fun j hj => ?_, fun j hj hq i hi => ?_⟩, M.it u2 (by decide) Dlay_o (fun j hj => ?_) ⟨fun j hj => ?_, fun j hj hq => ?_, fun j hj hq i hi => ?_⟩⟩
          · rw [t3, Dlay_18]
            split
            · rfl
            · exact X.1 18 j hj
          · rw [t4, Dlay_17, Dlay_19]
            split
            · rfl
            · exact X.2.1.1 j hj
          · have r19 : 0 ≤ D 19 j ∧ D 19 j ≤ 48 := R 19 j
            rw [Dlay_20]
            rw [Dlay_19] at hi
            rw [Dlay_17] at hq
            by_cases e : j = s
            · rw [if_pos e] at hi
              rw [e, if_pos (by omega), t5 i hi]
            · rw [if_neg e] at hi hq
              rw [if_neg (by omega), t6 _ (by omega)]
              exact X.2.1.2 j hj hq i hi
          · rw [u4, Dlay_18]
            split
            · rfl
            · exact M.1 18 j hj
          · rw [u3, Dlay_17]
            split
            · rfl
            · exact M.2.1 j hj
          · rw [u5, Dlay_19]
            rw [Dlay_17] at hq
            split
            · rfl
            · rename_i e
              rw [if_neg e] at hq
              exact M.2.2.1 j hj hq
          · have r19 : 0 ≤ D 19 j ∧ D 19 j ≤ 48 := R 19 j
            rw [Dlay_20]
            rw [Dlay_19] at hi
            rw [Dlay_17] at hq
            by_cases e : j = s
            · rw [if_pos e] at hi
              rw [e, if_pos (by omega), u6 i (by omega)]
            · rw [if_neg e] at hi hq
              rw [if_neg (by omega), u7 _ (by omega)]
              exact M.2.2.2 j hj hq i hi
    · rw [if_neg q2, if_neg q2]
      exact ⟨_, _, _, rfl, rfl, D, R, X, M⟩
  · rw [if_neg q1, if_neg q1]
    exact ⟨_, _, _, rfl, rfl, D, R, X, M⟩
theorem ag_lose : Ag_lose Rel := by
  rintro SX SM ⟨D, R, X, M⟩ x1
  obtain ⟨a, rfl, a1, a2⟩ := iI_of x1
  unfold m_X6_lose m_X7_lose
  rw [l4, x_below (by omega), bnd_some, ite01, m_sheet (by omega), bnd_some, ite01]
  by_cases q1 : 0 ≤ a ∧ a < 4
  · obtain ⟨s, rfl⟩ : ∃ s : Nat, a = s := ⟨a.toNat, by omega⟩
    have r17 : 0 ≤ D 17 s ∧ D 17 s ≤ 1 := R 17 s
    have e17 := M.2.1 s (by omega)
    rw [if_pos q1, if_pos q1, x_lost R X (by omega), bnd_some, ite10, chk_t (by omega), ix_n (by omega), e17]
    by_cases q2 : D 17 s = 1
    · unfold m_X4_drop
      rw [if_pos q2, eq0_f (by omega), x_size X (by omega) q2, bnd_some, chk_t (by omega), ix_n (by omega), nm_eq, bndV_some, chk_t (by omega), nm_eq, chk_t (by omega), gI_sI_n (by decide), M.2.2.1 s (by omega) q2]
      refine ⟨_, _, _, rfl, rfl, upD D 17 s 0, R.up (by decide), X.it (Fr.rf.set (by decide)) (fun k hk => upD_o (fun e => hk (by rw [e]; decide))) (fun j hj => ?_) ⟨fun j hj => ?_, fun j hj hq i hi => ?_⟩, M.it (K := [17]) (Fr.rf.set (by decide)) (by decide) (fun k hk => upD_o (fun e => hk (by rw [e]; decide))) (fun j hj => ?_) ⟨fun j hj => ?_, fun j hj hq => ?_, fun j hj hq i hi => ?_⟩⟩
      · rw [gI_sI_n (by decide)]; exact X.1 18 j hj
      · rw [gI_sI_k, upD_o (show (19 : Nat) ≠ 17 by decide)]
        by_cases e : j = s
        · rw [if_pos e, e, upD_s, if_neg (by decide)]; rfl
        · rw [if_neg e, upD_n (Or.inr e)]; exact X.2.1.1 j hj
      · have e : j ≠ s := fun e => by rw [e, upD_s] at hq; omega
        rw [upD_n (Or.inr e)] at hq
        rw [gI_sI_n (by decide)]
        exact X.2.1.2 j hj hq i hi
      · rw [gI_sI_n (by decide)]; exact M.1 18 j hj
      · rw [gI_sI_k]
        by_cases e : j = s
        · rw [if_pos e, e, upD_s]; rfl
        · rw [if_neg e, upD_n (Or.inr e)]; exact M.2.1 j hj
      · have e : j ≠ s := fun e => by rw [e, upD_s] at hq; omega
        rw [upD_n (Or.inr e)] at hq
        rw [gI_sI_n (by decide)]
        exact M.2.2.1 j hj hq
      · have e : j ≠ s := fun e => by rw [e, upD_s] at hq; omega
        rw [upD_n (Or.inr e)] at hq
        rw [gI_sI_n (by decide)]
        exact M.2.2.2 j hj hq i hi
    · rw [if_neg q2, eq0_t (by omega), l1, x_found, bnd_some, m_meets, bnd_some]
      exact ⟨_, _, _, rfl, rfl, rel_found R X M (by omega)⟩
  · rw [if_neg q1, if_neg q1]
    exact ⟨_, _, _, rfl, rfl, D, R, X, M⟩
/-- what stands against an item: 0 nothing, else the finding -/
def lak (D : Nat → Nat → Int) (s : Nat) (f i : Int) : Int := if D 17 s = 1 then (if D 18 s = f then (if 0 ≤ i ∧ i < D 19 s then 0 else 2) else 3) else 1
theorem lak_bd (D : Nat → Nat → Int) (s : Nat) (f i : Int) : 0 ≤ lak D s f i ∧ lak D s f i ≤ 3 := by
  unfold lak
  split
  · split
    · split <;> omega
    · omega
  · omega
theorem x_refuse {S : St} {D : Nat → Nat → Int} (R : Rg D) (X : RX S D) {s : Nat} {f i : Int} (hs : s < 4) (hf : 0 ≤ f ∧ f < 3) (hi : -2147483648 ≤ i ∧ i < 2147483648) : m_X6_refuseItem (iI s) (iI f) (iI i) S = if lak D s f i = 0 then some (0, S) else some (iI (-10 - lak D s f i), sI S 55 0 (iI (lak D s f i))) := by
  have r18 : 0 ≤ D 18 s ∧ D 18 s ≤ 2 := R 18 s
  have r19 : 0 ≤ D 19 s ∧ D 19 s ≤ 48 := R 19 s
  have e18 : gI S 23 s = iI (D 18 s) := X.1 18 s hs
  unfold m_X6_refuseItem lak
  rw [l4, x_below (by omega), bnd_some, ite01, if_pos (by omega), l3, x_below (by omega), bnd_some, ite01, if_pos hf, x_lost R X hs, bnd_some, ite10]
  by_cases q1 : D 17 s = 1
  · unfold m_X4_formOf
    rw [if_pos q1, if_pos q1, chk_t (by omega), ix_n (by omega), e18, bnd_some, if_eq (by omega)]
    by_cases q2 : D 18 s = f
    · rw [if_pos q2, if_pos q2, x_size X hs q1, bnd_some, x_below (by omega), bnd_some, ite01]
      by_cases q3 : 0 ≤ i ∧ i < D 19 s
      · rw [if_pos q3, if_pos q3, if_pos rfl]
      · rw [if_neg q3, if_neg q3, if_neg (by decide), l2, x_found, bnd_some]
    · rw [if_neg q2, if_neg q2, if_neg (by decide), x_found, bnd_some]
  · rw [if_neg q1, if_neg q1, if_neg (by decide), l1, x_found, bnd_some]
theorem m_lacks {S : St} {D : Nat → Nat → Int} (R : Rg D) (M : RM_ S D) {s : Nat} {f i : Int} (hs : s < 4) (hf : 0 ≤ f ∧ f < 3) (hi : -2147483648 ≤ i ∧ i < 2147483648) : m_X7_lacks (iI s) (iI f) (iI i) S = some (iI (lak D s f i), S) := by
  have r17 : 0 ≤ D 17 s ∧ D 17 s ≤ 1 := R 17 s
  have r18 : 0 ≤ D 18 s ∧ D 18 s ≤ 2 := R 18 s
  have r19 : 0 ≤ D 19 s ∧ D 19 s ≤ 48 := R 19 s
  have e18 : gI S 18 s = iI (D 18 s) := M.1 18 s hs
  have e17 := M.2.1 s hs
  unfold m_X7_lacks lak
  rw [chk_t (by omega), chk_t (by omega), chk_t (by omega), ix_n (by omega), e17, e18]
  by_cases q1 : D 17 s = 1
  · rw [eq0_f (by omega), if_pos q1, if_eq (by omega)]
    by_cases q2 : D 18 s = f
    · rw [if_pos q2, if_pos q2, M.2.2.1 s hs q1, m_inN (n := D 19 s) (by rw [l1, iI_sub]) (by omega), bnd_some, ite01]
      by_cases q3 : 0 ≤ i ∧ i < D 19 s
      · rw [if_pos q3, if_pos q3]; rfl
      · rw [if_neg q3, if_neg q3]; rfl
    · rw [if_neg q2, if_neg q2]; rfl
  · rw [eq0_t (by omega), if_neg q1]; rfl
def nar (f : Int) (v : Int32) : Int32 := if f = 0 then v.toInt8.toInt32 else if f = 1 then v.toInt16.toInt32 else v
theorem iI_toI (x : Int32) : iI x.toInt = x := Int32.ofInt_toInt x
theorem toI_bd (x : Int32) : -2147483648 ≤ x.toInt ∧ x.toInt ≤ 2147483647 := by
  have h := fb_rng x
  omega
theorem x_store {S : St} {D : Nat → Nat → Int} (R : Rg D) (X : RX S D) {s i : Nat} {v : Int32} (hs : s < 4) (hi : i < 48) : m_X4_store (iI s) (iI i) v S = some (sI S 22 (48 * s + i) (nar (D 18 s) v)) := by
  have r18 : 0 ≤ D 18 s ∧ D 18 s ≤ 2 := R 18 s
  have e18 : gI S 23 s = iI (D 18 s) := X.1 18 s hs
  unfold m_X4_store m_X4_narrow nar
  rw [chk_t (by omega), ix_n (by omega), e18, l48, iI_mul, iI_add, show ((s : Int) * 48 + (i : Int)) = ((48 * s + i : Nat) : Int) by push_cast; omega]
  simp only [chk_t (a := ((48 * s + i : Nat) : Int)) (n := 192) (by omega), ix_n (c := 48 * s + i) (by omega), nm_eq]
  rcases (show D 18 s = 0 ∨ D 18 s = 1 ∨ D 18 s = 2 by omega) with q | q | q <;> rw [q] <;> rfl
theorem m_keep {S : St} {D : Nat → Nat → Int} (R : Rg D) (M : RM_ S D) {s i : Nat} {v : Int32} (hs : s < 4) (hi : i < 48) : m_X7_keep (iI s) (iI i) v S = some (sI S 20 (48 * s + i) (nar (D 18 s) v)) := by
  have r18 : 0 ≤ D 18 s ∧ D 18 s ≤ 2 := R 18 s
  have e18 : gI S 18 s = iI (D 18 s) := M.1 18 s hs
  unfold m_X7_keep nar
  rw [chk_t (by omega), chk_t (by omega), ix_n (by omega), e18, l48, iI_mul, iI_add, show ((48 : Int) * (s : Int) + (i : Int)) = ((48 * s + i : Nat) : Int) by push_cast; omega, chk_t (by omega), chk_t (by omega), chk_t (by omega), ix_n (by omega)]
  rcases (show D 18 s = 0 ∨ D 18 s = 1 ∨ D 18 s = 2 by omega) with q | q | q <;> rw [q] <;> rfl
theorem RX.item {S : St} {D : Nat → Nat → Int} (X : RX S D) (j : Nat) (v : Int32) : RX (sI S 22 j v) (upD D 20 j v.toInt) := by
  refine X.it (Fr.rf.set (by decide)) (fun k hk => upD_o (fun e => hk (by rw [e]; decide))) (fun a ha => ?_) ⟨fun a ha => ?_, fun a ha hq i hi => ?_⟩
  · rw [gI_sI_n (by decide)]; exact X.1 18 a ha
  · rw [gI_sI_n (by decide)]; exact X.2.1.1 a ha
  · rw [gI_sI_k]
    by_cases e : 48 * a + i = j
    · rw [if_pos e, e, upD_s, iI_toI]
    · rw [if_neg e, upD_n (Or.inr e)]; exact X.2.1.2 a ha hq i hi
theorem RM_.item {S : St} {D : Nat → Nat → Int} (M : RM_ S D) (j : Nat) (v : Int32) : RM_ (sI S 20 j v) (upD D 20 j v.toInt) := by
  refine M.it (K := [20]) (Fr.rf.set (by decide)) (by decide) (fun k hk => upD_o (fun e => hk (by rw [e]; decide))) (fun a ha => ?_) ⟨fun a ha => ?_, fun a ha hq => ?_, fun a ha hq i hi => ?_⟩
  · rw [gI_sI_n (by decide)]; exact M.1 18 a ha
  · rw [gI_sI_n (by decide)]; exact M.2.1 a ha
  · rw [gI_sI_n (by decide)]; exact M.2.2.1 a ha hq
  · rw [gI_sI_k]
    by_cases e : 48 * a + i = j
    · rw [if_pos e, e, upD_s, iI_toI]
    · rw [if_neg e, upD_n (Or.inr e)]; exact M.2.2.2 a ha hq i hi
theorem Rg.item {D : Nat → Nat → Int} (R : Rg D) (j : Nat) (v : Int32) : Rg (upD D 20 j v.toInt) := R.up (toI_bd v)
theorem lak_0 {D : Nat → Nat → Int} {s : Nat} {f i : Int} (h : lak D s f i = 0) : D 17 s = 1 ∧ D 18 s = f ∧ 0 ≤ i ∧ i < D 19 s := by
  unfold lak at h
  split at h
  · split at h
    · split at h
      · exact ⟨by assumption, by assumption, by omega, by omega⟩
      · omega
    · omega
  · omega
theorem ag_put : Ag_put Rel := by
  rintro SX SM ⟨D, R, X, M⟩ x1 x2 x3 v
  obtain ⟨a, rfl, a1, a2⟩ := iI_of x1
  obtain ⟨f, rfl, f1, f2⟩ := iI_of x2
  obtain ⟨i, rfl, i1, i2⟩ := iI_of x3
  by_cases q1 : 0 ≤ a ∧ a < 4
  · by_cases q2 : 0 ≤ f ∧ f < 3
    · obtain ⟨s, rfl⟩ : ∃ s : Nat, a = s := ⟨a.toNat, by omega⟩
      have r19 : 0 ≤ D 19 s ∧ D 19 s ≤ 48 := R 19 s
      have lb := lak_bd D s f i
      unfold m_X6_put m_X7_put
      rw [x_refuse R X (by omega) q2 (by omega), m_sheet (by omega), bnd_some, ite01, if_pos q1, m_inN (n := 3) l2 (by omega), bnd_some, ite01, if_pos q2, m_lacks R M (by omega) q2 (by omega), bnd_some]
      by_cases q3 : lak D s f i = 0
      · obtain ⟨g1, g2, g3, g4⟩ := lak_0 q3
        obtain ⟨j, rfl⟩ : ∃ j : Nat, i = j := ⟨i.toNat, by omega⟩
        rw [if_pos q3, bnd_some, if_pos rfl, gt0_f (by omega), x_store R X (by omega) (by omega), bndV_some, m_keep R M (by omega) (by omega), bndV_some]
        exact ⟨_, _, _, rfl, rfl, _, R.item _ _, X.item _ _, M.item _ _⟩
      · rw [if_neg q3, bnd_some, eq0_f (by omega), gt0_t (by omega), m_meets, bnd_some]
        exact ⟨_, _, _, rfl, rfl, rel_found R X M (by omega)⟩
    · refine ⟨-2, SX, SM, ?_, ?_, D, R, X, M⟩
      · unfold m_X6_put m_X6_refuseItem
        rw [l4, x_below (by omega), bnd_some, ite01, if_pos q1, l3, x_below (by omega), bnd_some, ite01, if_neg q2]
        rfl
      · unfold m_X7_put
        rw [m_sheet (by omega), bnd_some, ite01, if_pos q1, m_inN (n := 3) l2 (by omega), bnd_some, ite01, if_neg q2]
  · refine ⟨-2, SX, SM, ?_, ?_, D, R, X, M⟩
    · unfold m_X6_put m_X6_refuseItem
      rw [l4, x_below (by omega), bnd_some, ite01, if_neg q1]
      rfl
    · unfold m_X7_put
      rw [m_sheet (by omega), bnd_some, ite01, if_neg q1]
theorem ag_get : Ag_get Rel := by
  rintro SX SM ⟨D, R, X, M⟩ x1 x2 x3
  obtain ⟨a, rfl, a1, a2⟩ := iI_of x1
  obtain ⟨f, rfl, f1, f2⟩ := iI_of x2
  obtain ⟨i, rfl, i1, i2⟩ := iI_of x3
  by_cases q1 : 0 ≤ a ∧ a < 4
  · by_cases q2 : 0 ≤ f ∧ f < 3
    · obtain ⟨s, rfl⟩ : ∃ s : Nat, a = s := ⟨a.toNat, by omega⟩
      have r19 : 0 ≤ D 19 s ∧ D 19 s ≤ 48 := R 19 s
      have lb := lak_bd D s f i
      unfold m_X6_get m_X7_get
      rw [x_refuse R X (by omega) q2 (by omega), m_sheet (by omega), bnd_some, ite01, if_pos q1, m_inN (n := 3) l2 (by omega), bnd_some, ite01, if_pos q2, m_lacks R M (by omega) q2 (by omega), bnd_some]
      by_cases q3 : lak D s f i = 0
      · obtain ⟨g1, g2, g3, g4⟩ := lak_0 q3
        obtain ⟨j, rfl⟩ : ∃ j : Nat, i = j := ⟨i.toNat, by omega⟩
        unfold m_X4_itemAt
        rw [if_pos q3, bnd_some, if_pos rfl, gt0_f (by omega), l48, iI_mul, iI_add, iI_mul, iI_add, show ((s : Int) * 48 + (j : Int)) = ((48 * s + j : Nat) : Int) by push_cast; omega, show ((48 : Int) * (s : Int) + (j : Int)) = ((48 * s + j : Nat) : Int) by push_cast; omega, chk_t (by omega), chk_t (by omega), ix_n (by omega), bnd_some, X.2.1.2 s (by omega) g1 j g4, M.2.2.2 s (by omega) g1 j g4]
        exact ⟨_, _, _, rfl, rfl, D, R, X, M⟩
      · rw [if_neg q3, bnd_some, eq0_f (by omega), gt0_t (by omega), nm_eq]
        exact ⟨_, _, _, rfl, rfl, rel_found R X M (by omega)⟩
    · refine ⟨-2147483648, SX, SM, ?_, ?_, D, R, X, M⟩
      · unfold m_X6_get m_X6_refuseItem
        rw [l4, x_below (by omega), bnd_some, ite01, if_pos q1, l3, x_below (by omega), bnd_some, ite01, if_neg q2]
        rfl
      · unfold m_X7_get
        rw [m_sheet (by omega), bnd_some, ite01, if_pos q1, m_inN (n := 3) l2 (by omega), bnd_some, ite01, if_neg q2]
  · refine ⟨-2147483648, SX, SM, ?_, ?_, D, R, X, M⟩
    · unfold m_X6_get m_X6_refuseItem
      rw [l4, x_below (by omega), bnd_some, ite01, if_neg q1]
      rfl
    · unfold m_X7_get
      rw [m_sheet (by omega), bnd_some, ite01, if_neg q1]
