/-! PURE: the reference's light, ones, years -/
def pc (v : Nat) : Nat → Nat
  | 0 => 0
  | n + 1 => pc v n + v / 2 ^ n % 2
theorem pc_le (v : Nat) : ∀ n, pc v n ≤ n
  | 0 => Nat.le_refl _
  | n + 1 => by
    have := pc_le v n
    rw [pc]
    omega
theorem shr_bit {v k : Nat} (hv : v < 2147483648) (hk : k < 31) : (nI v >>> (nI k &&& 31)) &&& 1 = nI (v / 2 ^ k % 2) := by
  rw [pk_shrN (by omega) _ k (s_l k (by omega)), show (1 : Int32) = nI (2 ^ 1 - 1) from rfl, fa_mask]
theorem m_ones {S : St} {v : Nat} (hv : v < 2147483648) : m_X7_ones (nI v) S = some (nI (pc v 12), S) := by
  unfold m_X7_ones
  refine it2_inv (fun i x y T => x = nI (pc v i) ∧ y = nI i ∧ T = S) 12 (fun o => o = some (nI (pc v 12), S)) ?_ ?_ 5000 0 _ _ S (Nat.zero_le _) (by omega) ⟨rfl, rfl, rfl⟩
  · rintro i x y T hi ⟨rfl, rfl, rfl⟩ rec
    refine ⟨nI (pc v (i + 1)), nI (i + 1), T, ⟨rfl, rfl, rfl⟩, ?_⟩
    unfold b_X7_ones_4
    rw [shr_bit hv (by omega), nI_add, nm_eq, ← iI_n i, l12, lt_t (by omega), l1, iI_add]
    congr 1
  · rintro x y T ⟨rfl, rfl, rfl⟩ rec
    unfold b_X7_ones_4
    rw [← iI_n 12, l12, lt_f (by omega)]
theorem tb_pc : ∀ a, a < 7 → ∀ b, b < 7 → pc (tb a b) 12 = 12 - (a + b) := by decide +kernel
theorem btl_pc (w : Nat) (h st : Nat → Int) (c s : Nat) : pc (btl w h st c s) 12 = hr w h st c s := by
  have d1 := (dk_all w h st c s false).1
  have d2 := (dk_all w h st c s true).1
  rw [btl_tb, tb_pc _ (by omega) _ (by omega)]
  rfl
theorem btl_lt (w : Nat) (h st : Nat → Int) (c s : Nat) : btl w h st c s < 4096 := bs_lt _ 12
theorem m_light {S : St} {w N : Nat} {h st dy : Nat → Int} (G : Gr w N h st dy) (X : GV S w N h st dy) {c s : Nat} (hc : c < N) (hs : s < 4) : m_X7_lightOf (iI c) (iI s) S = some (nI (btl w h st c s), S) := by
  unfold m_X7_lightOf
  refine it2_inv (fun i x y T => x = nI (bs (lit w h st c s) i) ∧ y = iI (i : Int) ∧ T = S) 12 (fun o => o = some (nI (btl w h st c s), S)) ?_ ?_ 5000 0 _ _ S (Nat.zero_le _) (by omega) ⟨rfl, rfl, rfl⟩
  · rintro i x y T hi ⟨rfl, rfl, rfl⟩ rec
    refine ⟨nI (bs (lit w h st c s) (i + 1)), iI ((i + 1 : Nat) : Int), T, ⟨rfl, rfl, rfl⟩, ?_⟩
    unfold b_X7_lightOf_5
    rw [l12, lt_t (by omega), m_shader G X hc hs hi, bnd_some, lm1]
    have hl := lit_shd w h st c s i
    have hb : -1 ≤ shd w h st c (sdh i) (stp s i) ∧ shd w h st c (sdh i) (stp s i) ≤ 100 := by
      unfold shd
      split
      · rename_i q
        have := (G.in_row (g := sdh i) (d := fa_first (shp h st c (sdh i) (stp s i)) (rch w c (sdh i)) + 1) hc (by omega)).1
        have := G.w4.2
        omega
      · omega
    by_cases q : lit w h st c s i = true
    · rw [eq_t (hl.mp q), iI_n i, bs_or _ (by omega), nm_eq, bs, if_pos q, ← iI_n i, l1, iI_add]
      rfl
    · rw [eq_f ⟨fun z => q (hl.mpr z), by omega⟩, or_0, nm_eq, bs, if_neg q, l1, iI_add]
      rfl
  · rintro x y T ⟨rfl, rfl, rfl⟩ rec
    unfold b_X7_lightOf_5
    rw [l12, lt_f (by omega)]
    rfl
theorem m_year {S : St} {w N : Nat} {h st dy : Nat → Int} (G : Gr w N h st dy) (X : GV S w N h st dy) {c : Nat} (hc : c < N) : m_X7_yearOf (iI c) S = some (iI (yr w h st dy c), S) := by
  unfold m_X7_yearOf
  refine it2_inv (fun i x y T => x = iI (sm (fun s => (hr w h st c s : Int) * dy s) i) ∧ y = iI (i : Int) ∧ T = S) 4 (fun o => o = some (iI (yr w h st dy c), S)) ?_ ?_ 5000 0 _ _ S (Nat.zero_le _) (by omega) ⟨rfl, rfl, rfl⟩
  · rintro i x y T hi ⟨rfl, rfl, rfl⟩ rec
    refine ⟨_, _, T, ⟨rfl, rfl, rfl⟩, ?_⟩
    unfold b_X7_yearOf_4
    have := btl_lt w h st c i
    rw [l4, lt_t (by omega), m_light G X hc hi, bnd_some, m_ones (by omega), bnd_some, btl_pc, chk_t (by omega), ix_n (by omega), X.2.2.2.2 i hi, ← iI_n, iI_mul, iI_add, nm_eq, l1, iI_add]
    rfl
  · rintro x y T ⟨rfl, rfl, rfl⟩ rec
    unfold b_X7_yearOf_4
    rw [l4, lt_f (by omega)]
    rfl
