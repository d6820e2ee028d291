/-! PURE: what class and reference have in common: the data D, by the reference's numbers -/
def hiT : Nat → Int
  | 1 => 255 | 3 => 20 | 4 => 3 | 5 => 99 | 6 => 16 | 7 => 9 | 8 => 9999 | 9 => 99 | 14 => 3 | 15 => 11 | 17 => 1 | 18 => 2 | 19 => 48 | 20 => 2147483647 | 40 => 20 | 44 => 8 | 45 => 5 | _ => 0
def loT : Nat → Int
  | 20 => -2147483648 | _ => 0
def szT : Nat → Nat
  | 1 => 20 | 3 => 12 | 4 => 12 | 5 => 4 | 6 => 4 | 7 => 16 | 8 => 3 | 9 => 3 | 14 => 8 | 15 => 8 | 18 => 4 | 40 => 1 | 44 => 1 | 45 => 1 | _ => 0
def phi : Nat → Nat
  | 1 => 7 | 3 => 10 | 4 => 25 | 5 => 11 | 6 => 31 | 7 => 26 | 8 => 17 | 9 => 18 | 14 => 29 | 15 => 30 | 18 => 23 | 40 => 40 | 44 => 54 | 45 => 55 | k => 1000 + k
def Rg (D : Nat → Nat → Int) : Prop := ∀ k j, loT k ≤ D k j ∧ D k j ≤ hiT k
def upD (D : Nat → Nat → Int) (k j : Nat) (x : Int) : Nat → Nat → Int := fun a b => if a = k ∧ b = j then x else D a b
theorem upD_s {D : Nat → Nat → Int} {k j : Nat} {x : Int} : upD D k j x k j = x := by simp [upD]
theorem upD_n {D : Nat → Nat → Int} {k j a b : Nat} {x : Int} (h : a ≠ k ∨ b ≠ j) : upD D k j x a b = D a b := by
  unfold upD
  rw [if_neg (by omega)]
theorem upD_o {D : Nat → Nat → Int} {k j a : Nat} {x : Int} (h : a ≠ k) : upD D k j x a = D a := funext fun b => upD_n (Or.inl h)
theorem Rg.up {D : Nat → Nat → Int} (R : Rg D) {k j : Nat} {x : Int} (h : loT k ≤ x ∧ x ≤ hiT k) : Rg (upD D k j x) := fun a b => by
  unfold upD
  split
  · rename_i q; rw [q.1]; exact h
  · exact R a b
def nD (D : Nat → Nat → Int) : Nat := (D 40 0).toNat
def wD (D : Nat → Nat → Int) : Nat := wd (D 1) (nD D)
def rD (D : Nat → Nat → Int) : Nat := rw_ (D 1) (nD D)
def ND (D : Nat → Nat → Int) : Nat := wD D * rD D
def hD (D : Nat → Nat → Int) (c : Nat) : Int := if c < ND D then hg (D 1) (wD D) c else 0
def yD (D : Nat → Nat → Int) (c : Nat) : Int := yr (wD D) (hD D) (D 3) (D 5) c
theorem phi_list {k : Nat} (h : 0 < szT k) : k ∈ [1, 3, 4, 5, 6, 7, 8, 9, 14, 15, 18, 40, 44, 45] := by
  unfold szT at h
  split at h <;> first | (simp; done) | omega
theorem phi_inj {k k' : Nat} (h : 0 < szT k) (h' : 0 < szT k') (e : phi k = phi k') : k = k' := by
  have a := phi_list h
  have b := phi_list h'
  simp only [List.mem_cons, List.not_mem_nil, or_false] at a b
  rcases a with rfl | rfl | rfl | rfl | rfl | rfl | rfl | rfl | rfl | rfl | rfl | rfl | rfl | rfl <;> rcases b with rfl | rfl | rfl | rfl | rfl | rfl | rfl | rfl | rfl | rfl | rfl | rfl | rfl | rfl <;> first | rfl | (exfalso; revert e; decide)
def ItM (S : St) (D : Nat → Nat → Int) : Prop := (∀ s, s < 4 → gI S 17 s = iI (D 17 s)) ∧ (∀ s, s < 4 → D 17 s = 1 → gI S 19 s = iI (D 19 s)) ∧ ∀ s, s < 4 → D 17 s = 1 → ∀ i : Nat, (i : Int) < D 19 s → gI S 20 (48 * s + i) = iI (D 20 (48 * s + i))
def ItX (S : St) (D : Nat → Nat → Int) : Prop := (∀ s, s < 4 → gI S 24 s = iI (if D 17 s = 1 then D 19 s else -1)) ∧ ∀ s, s < 4 → D 17 s = 1 → ∀ i : Nat, (i : Int) < D 19 s → gI S 22 (48 * s + i) = iI (D 20 (48 * s + i))
def BaM (S : St) (D : Nat → Nat → Int) : Prop := ∀ k j, j < szT k → gI S k j = iI (D k j)
def BaX (S : St) (D : Nat → Nat → Int) : Prop := ∀ k j, j < szT k → gI S (phi k) j = iI (D k j)
theorem BaM.up {S : St} {D : Nat → Nat → Int} (B : BaM S D) (k j : Nat) (x : Int) : BaM (sI S k j (iI x)) (upD D k j x) := fun a b h => by
  rw [gI_sI]
  unfold upD
  by_cases e : a = k
  · by_cases f : b = j
    · rw [if_pos e, if_pos f, if_pos ⟨e, f⟩]
    · rw [if_pos e, if_neg f, if_neg (fun z => f z.2)]; exact B a b h
  · rw [if_neg e, if_neg (fun z => e z.1)]; exact B a b h
theorem BaX.up {S : St} {D : Nat → Nat → Int} (B : BaX S D) {k : Nat} (hk : 0 < szT k) (j : Nat) (x : Int) : BaX (sI S (phi k) j (iI x)) (upD D k j x) := fun a b h => by
  rw [gI_sI]
  unfold upD
  by_cases e : a = k
  · by_cases f : b = j
    · rw [if_pos (by rw [e]), if_pos f, if_pos ⟨e, f⟩]
    · rw [if_pos (by rw [e]), if_neg f, if_neg (fun z => f z.2)]; exact B a b h
  · rw [if_neg (fun z => e (phi_inj (by omega) hk z)), if_neg (fun z => e z.1)]; exact B a b h
def inM : List Nat := [1, 3, 4, 5, 6, 7, 8, 9, 14, 15, 18, 40, 44, 45, 17, 19, 20]
def inX : List Nat := [7, 10, 25, 11, 31, 26, 17, 18, 29, 30, 23, 40, 54, 55, 24, 22]
theorem BaM.fr {S T : St} {D : Nat → Nat → Int} {K : List Nat} (B : BaM S D) (F : Fr K S T) (h : ∀ a ∈ inM, a ∉ K) : BaM T D := fun k j hj => by
  rw [F.1 _ _ (h k _), B k j hj]
  have := phi_list (k := k) (by omega)
  simp only [inM, List.mem_cons, List.not_mem_nil, or_false] at *
  omega
theorem phi_in {k : Nat} (h : 0 < szT k) : phi k ∈ inX := by
  have := phi_list h
  simp only [List.mem_cons, List.not_mem_nil, or_false] at this
  rcases this with rfl | rfl | rfl | rfl | rfl | rfl | rfl | rfl | rfl | rfl | rfl | rfl | rfl | rfl <;> decide
theorem BaX.fr {S T : St} {D : Nat → Nat → Int} {K : List Nat} (B : BaX S D) (F : Fr K S T) (h : ∀ a ∈ inX, a ∉ K) : BaX T D := fun k j hj => by
  rw [F.1 _ _ (h _ (phi_in (by omega))), B k j hj]
theorem ItM.fr {S T : St} {D : Nat → Nat → Int} {K : List Nat} (B : ItM S D) (F : Fr K S T) (h : ∀ a ∈ inM, a ∉ K) : ItM T D := ⟨fun s hs => by rw [F.1 _ _ (h 17 (by decide)), B.1 s hs], fun s hs hq => by rw [F.1 _ _ (h 19 (by decide)), B.2.1 s hs hq], fun s hs hq i hi => by rw [F.1 _ _ (h 20 (by decide)), B.2.2 s hs hq i hi]⟩
theorem ItX.fr {S T : St} {D : Nat → Nat → Int} {K : List Nat} (B : ItX S D) (F : Fr K S T) (h : ∀ a ∈ inX, a ∉ K) : ItX T D := ⟨fun s hs => by rw [F.1 _ _ (h 24 (by decide)), B.1 s hs], fun s hs hq i hi => by rw [F.1 _ _ (h 22 (by decide)), B.2 s hs hq i hi]⟩
/-- the items do not speak of other data -/
theorem ItM.cong {S : St} {D E : Nat → Nat → Int} (B : ItM S D) (h : D 17 = E 17 ∧ D 19 = E 19 ∧ D 20 = E 20) : ItM S E := by
  unfold ItM at *
  rw [← h.1, ← h.2.1, ← h.2.2]
  exact B
theorem ItX.cong {S : St} {D E : Nat → Nat → Int} (B : ItX S D) (h : D 17 = E 17 ∧ D 19 = E 19 ∧ D 20 = E 20) : ItX S E := by
  unfold ItX at *
  rw [← h.1, ← h.2.1, ← h.2.2]
  exact B
theorem gr_D {D : Nat → Nat → Int} (R : Rg D) (h : 0 < ND D) : Gr (wD D) (ND D) (hD D) (D 3) (D 5) := by
  have hn := R 40 0
  have h40 : nD D ≤ 20 := by unfold nD; have : D 40 0 ≤ 20 := hn.2; omega
  rcases prs_cases (D 1) (nD D) with ⟨h1, h2, h3⟩ | ⟨h0, h1, h2, h3⟩ | ⟨h1, h2, h3, h4, h5, h6, h7⟩
  · exfalso; unfold ND wD rD at h; rw [h2] at h; omega
  · exfalso; unfold ND wD rD at h; rw [h2] at h; omega
  · refine ⟨⟨h2, h3, ?_, rD D, rfl⟩, fun c => ?_, fun c => R 3 c, fun s => R 5 s⟩
    · exact Nat.le_trans (Nat.mul_le_mul h3 h5) (by omega)
    · unfold hD
      split
      · rename_i hc
        unfold hg
        have hw4 : wD D = 1 ∨ wD D = 2 ∨ wD D = 3 ∨ wD D = 4 := by unfold wD; omega
        have hp : c + c / wD D < nD D ∧ (c + c / wD D) % (wD D + 1) ≠ wD D := by
          have e1 : nD D + 1 = rD D * (wD D + 1) := h6
          have e2 : c < wD D * rD D := hc
          have e3 : rD D ≤ 3 := h5
          have e4 : 1 ≤ rD D := h4
          have e5 : rD D * (wD D + 1) = wD D * rD D + rD D := by rw [Nat.mul_succ, Nat.mul_comm]
          have e6 : c / wD D < rD D := Nat.div_lt_of_lt_mul e2
          rcases hw4 with q | q | q | q <;> rw [q] at e1 e2 e5 e6 ⊢ <;> omega
        have h7' : Pat (D 1) (wD D) (nD D) := h7
        have := h7' _ hp.1
        rw [if_neg hp.2] at this
        have e9 : wd (D 1) (nD D) = wD D := rfl
        omega
      · omega
/-- what the class has worked out of the data, but for parts and plants -/
def Der (S : St) (D : Nat → Nat → Int) : Prop := Lx S (D 1) (nD D) ∧ Ms S (wD D) (ND D) (hD D) (D 3) (D 5)
theorem nD_i {D : Nat → Nat → Int} (R : Rg D) : ((nD D : Nat) : Int) = D 40 0 ∧ nD D ≤ 20 := by
  have h := R 40 0
  have h1 : 0 ≤ D 40 0 := h.1
  have h2 : D 40 0 ≤ 20 := h.2
  unfold nD
  omega
theorem txx {S : St} {D : Nat → Nat → Int} (R : Rg D) (B : BaX S D) : TX_ S (D 1) (nD D) := ⟨(nD_i R).2, by rw [(nD_i R).1]; exact B 40 0 (by decide), fun j hj => B 1 j hj, fun j => R 1 j⟩
theorem txm {S : St} {D : Nat → Nat → Int} (R : Rg D) (B : BaM S D) : TM S (D 1) (nD D) := ⟨(nD_i R).2, by rw [(nD_i R).1]; exact B 40 0 (by decide), fun j hj => B 1 j hj, fun j => R 1 j⟩
theorem gxx {S : St} {D : Nat → Nat → Int} (B : BaX S D) (L : Lx S (D 1) (nD D)) : GX S (wD D) (ND D) (hD D) (D 3) (D 5) := by
  obtain ⟨L1, L2, L3, L4, L5⟩ := L
  refine ⟨L3, L2, fun c hc => ?_, fun c hc => (L5 c hc).2, fun c hc => B 3 c hc, fun s hs => B 5 s hs⟩
  rw [(L5 c hc).1]
  unfold hD
  rw [if_pos hc]
  rfl
theorem gvv {S : St} {D : Nat → Nat → Int} (B : BaM S D) (L : Lm S (D 1) (prs (D 1) (nD D))) : GV S (wD D) (ND D) (hD D) (D 3) (D 5) := by
  obtain ⟨L1, L2, L3, L4⟩ := L
  refine ⟨L2, L1, fun c hc => ?_, fun c hc => B 3 c hc, fun s hs => B 5 s hs⟩
  rw [L4 c hc]
  unfold hD
  rw [if_pos hc]
  rfl
theorem measure_0 {S : St} (h : gI S 43 0 = iI 0) : m_X5_measure S = some S := by
  unfold m_X5_measure
  rw [show (5000 : Nat) = 4999 + 1 from rfl, it1_s]
  unfold b_X5_measure_2 m_X1_cells
  rw [bnd_some, h]
  rfl
theorem x_meas {S : St} {D : Nat → Nat → Int} (R : Rg D) (B : BaX S D) (L : Lx S (D 1) (nD D)) : ∃ T, m_X5_measure S = some T ∧ Fr [12, 13, 14] S T ∧ Ms T (wD D) (ND D) (hD D) (D 3) (D 5) := by
  by_cases h : 0 < ND D
  · exact x_measure (gr_D R h) (gxx B L)
  · have e : ND D = 0 := by omega
    refine ⟨S, measure_0 ?_, Fr.rf, fun c hc => by omega, fun c hc => by omega⟩
    have := L.2.1
    have e2 : wd (D 1) (nD D) * rw_ (D 1) (nD D) = 0 := e
    rw [e2] at this
    exact this
