/-! PURE: measuring, and the nearest shade -/
def Fr (K : List Nat) (S T : St) : Prop := (∀ a b, a ∉ K → gI T a b = gI S a b) ∧ ∀ a b, gL T a b = gL S a b
theorem Fr.rf {K : List Nat} {S : St} : Fr K S S := ⟨fun _ _ _ => rfl, fun _ _ => rfl⟩
theorem Fr.tr {K : List Nat} {S T U : St} (h1 : Fr K S T) (h2 : Fr K T U) : Fr K S U := ⟨fun a b h => (h2.1 a b h).trans (h1.1 a b h), fun a b => (h2.2 a b).trans (h1.2 a b)⟩
theorem Fr.mono {K K2 : List Nat} {S T : St} (h : Fr K S T) (hk : ∀ a, a ∈ K → a ∈ K2) : Fr K2 S T := ⟨fun a b g => h.1 a b (fun q => g (hk a q)), h.2⟩
theorem Fr.set {K : List Nat} {S T : St} {k j : Nat} {x : Int32} (h : Fr K S T) (hk : k ∈ K) : Fr K S (sI T k j x) := ⟨fun a b g => by rw [gI_sI_n (show a ≠ k from fun e => g (by rw [e]; exact hk)), h.1 a b g], fun a b => h.2 a b⟩
theorem GX.fr {S T : St} {w N : Nat} {h st dy : Nat → Int} {K : List Nat} (X : GX S w N h st dy) (F : Fr K S T) (hk : ∀ a ∈ [42, 43, 8, 9, 10, 11], a ∉ K) : GX T w N h st dy := by
  obtain ⟨X1, X2, X3, X4, X5, X6⟩ := X
  refine ⟨?_, ?_, fun c hc => ?_, fun c hc => ?_, fun c hc => ?_, fun c hc => ?_⟩
  · rw [F.1 _ _ (hk 42 (by simp)), X1]
  · rw [F.1 _ _ (hk 43 (by simp)), X2]
  · rw [F.1 _ _ (hk 8 (by simp)), X3 c hc]
  · rw [F.1 _ _ (hk 9 (by simp)), X4 c hc]
  · rw [F.1 _ _ (hk 10 (by simp)), X5 c hc]
  · rw [F.1 _ _ (hk 11 (by simp)), X6 c hc]
noncomputable def bcI (x : Int32) : Int32 := match m_J6_bitCount_0f7a4 x (fun _ _ => 0, fun _ _ => 0) with
  | some z => z.1
  | none => 0
theorem bc_any (x : Int32) (S : St) : m_J6_bitCount_0f7a4 x S = some (bcI x, S) := rfl
theorem tb_bc : ∀ a, a < 7 → ∀ b, b < 7 → bcI (nI (tb a b)) = nI (12 - (a + b)) := by decide +kernel
theorem btl_bc (w : Nat) (h st : Nat → Int) (c s : Nat) : bcI (nI (btl w h st c s)) = nI (hr w h st c s) := by
  have d1 := (dk_all w h st c s false).1
  have d2 := (dk_all w h st c s true).1
  rw [btl_tb, tb_bc _ (by omega) _ (by omega)]
  rfl
/-- what is measured -/
def Ms (S : St) (w N : Nat) (h st dy : Nat → Int) : Prop := (∀ c, c < N → ∀ s, s < 4 → gI S 12 (c * 4 + s) = nI (btl w h st c s) ∧ gI S 13 (c * 4 + s) = nI (hr w h st c s)) ∧ ∀ c, c < N → gI S 14 c = iI (yr w h st dy c)
theorem x_measure {S : St} {w N : Nat} {h st dy : Nat → Int} (G : Gr w N h st dy) (X : GX S w N h st dy) : ∃ T, m_X5_measure S = some T ∧ Fr [12, 13, 14] S T ∧ Ms T w N h st dy := by
  obtain ⟨hw, hN⟩ := G.w4
  unfold m_X5_measure
  refine it1_inv (fun i x T => x = iI (i : Int) ∧ Fr [12, 13, 14] S T ∧ Ms T w i h st dy) N (fun o => ∃ T, o = some T ∧ Fr [12, 13, 14] S T ∧ Ms T w N h st dy) ?_ ?_ 5000 0 _ S (Nat.zero_le _) (by omega) ⟨rfl, Fr.rf, fun c hc => absurd hc (Nat.not_lt_zero _), fun c hc => absurd hc (Nat.not_lt_zero _)⟩
  · rintro i x T hi ⟨rfl, F, M1, M2⟩
    have XT := X.fr F (by decide)
    have inner : ∀ rec : Int32 → St → Option St, ∃ T4, Fr [12, 13, 14] S T4 ∧ Ms T4 w (i + 1) h st dy ∧ it1 (b_X5_measure_15 (iI i) (fun S9 => bnd (m_X5_yearAsBuilt (iI i) S9) fun r11 S10 => chk (iI i) 12 <| nm (sI S10 14 (ix (iI i)) r11) fun S12 => rec (iI i + 1) S12)) 5000 (0 : Int32) T = rec (iI i + 1) T4 := by
      intro rec
      refine it1_inv (fun j y U => y = iI (j : Int) ∧ Fr [12, 13, 14] S U ∧ (∀ c, c < i → ∀ s, s < 4 → gI U 12 (c * 4 + s) = nI (btl w h st c s) ∧ gI U 13 (c * 4 + s) = nI (hr w h st c s)) ∧ (∀ c, c < i → gI U 14 c = iI (yr w h st dy c)) ∧ (∀ s, s < j → gI U 12 (i * 4 + s) = nI (btl w h st i s) ∧ gI U 13 (i * 4 + s) = nI (hr w h st i s))) 4 (fun o => ∃ T4, Fr [12, 13, 14] S T4 ∧ Ms T4 w (i + 1) h st dy ∧ o = rec (iI i + 1) T4) ?_ ?_ 5000 0 _ T (Nat.zero_le _) (by omega) ⟨rfl, F, M1, M2, fun s hs => absurd hs (Nat.not_lt_zero _)⟩
      · rintro j y U hj ⟨rfl, FU, A1, A2, A3⟩
        have XU := X.fr FU (by decide)
        have ei : ((i : Int) * 4 + (j : Int)) = ((i * 4 + j : Nat) : Int) := by push_cast; rfl
        refine fun rec2 => ⟨iI ((j + 1 : Nat) : Int), sI (sI U 12 (i * 4 + j) (nI (btl w h st i j))) 13 (i * 4 + j) (nI (hr w h st i j)), ⟨rfl, (FU.set (by decide)).set (by decide), fun c hc s hs => ?_, fun c hc => ?_, fun s hs => ?_⟩, ?_⟩
        · rw [gI_sI_n (by decide), gI_sI_k, gI_sI_k, gI_sI_n (by decide), if_neg (by omega), if_neg (by omega)]
          exact A1 c hc s hs
        · rw [gI_sI_n (by decide), gI_sI_n (by decide)]
          exact A2 c hc
        · rw [gI_sI_n (by decide), gI_sI_k, gI_sI_k, gI_sI_n (by decide)]
          by_cases e : s = j
          · subst e
            rw [if_pos rfl, if_pos rfl]
            exact ⟨rfl, rfl⟩
          · rw [if_neg (by omega), if_neg (by omega)]
            exact A3 s (by omega)
        · unfold b_X5_measure_15
          rw [l4, lt_t (by omega), x_bits G XU (by omega) hj, bnd_some, iI_mul, iI_add, ei, chk_t (by omega), ix_n (by omega), nm_eq, bc_any, bnd_some, btl_bc, chk_t (by omega), nm_eq, l1, iI_add]
          rfl
      · rintro y U ⟨rfl, FU, A1, A2, A3⟩ rec2
        have XU := X.fr FU (by decide)
        refine ⟨sI U 14 i (iI (yr w h st dy i)), FU.set (by decide), ⟨fun c hc s hs => ?_, fun c hc => ?_⟩, ?_⟩
        · rw [gI_sI_n (by decide), gI_sI_n (by decide)]
          by_cases e : c = i
          · subst e
            exact A3 s hs
          · exact A1 c (by omega) s hs
        · rw [gI_sI_k]
          by_cases e : c = i
          · rw [if_pos e, e]
          · rw [if_neg e]
            exact A2 c (by omega)
        · unfold b_X5_measure_15
          rw [l4, lt_f (by omega)]
          show bnd (m_X5_yearAsBuilt (iI i) U) _ = _
          rw [x_year G XU (by omega), bnd_some, chk_t (by omega), ix_n (by omega), nm_eq]
    intro rec
    obtain ⟨T4, F4, M4, e4⟩ := inner rec
    refine ⟨iI ((i + 1 : Nat) : Int), T4, ⟨rfl, F4, M4⟩, ?_⟩
    unfold b_X5_measure_2 m_X1_cells
    rw [bnd_some, XT.2.1, lt_t (by omega), e4, l1, iI_add]
    rfl
  · rintro x T ⟨rfl, F, M⟩ rec
    unfold b_X5_measure_2 m_X1_cells
    have XT := X.fr F (by decide)
    rw [bnd_some, XT.2.1, lt_f (by omega)]
    exact ⟨T, rfl, F, M⟩
