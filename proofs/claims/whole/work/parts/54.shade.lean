/-! PURE: the nearest shade, on both sides; the reference's hours -/
def stp (s j : Nat) : Nat := (s + 1) * (if j < 6 then j + 1 else 12 - j)
def shp (h st : Nat → Int) (c : Nat) (g : Bool) (k e : Nat) : Bool := decide ((((e + 1) * k : Nat) : Int) < rs h st c (oth c (e + 1) g))
def shd (w : Nat) (h st : Nat → Int) (c : Nat) (g : Bool) (k : Nat) : Int := if fa_first (shp h st c g k) (rch w c g) < rch w c g then (oth c (fa_first (shp h st c g k) (rch w c g) + 1) g : Nat) else -1
theorem shd_none {w : Nat} {h st : Nat → Int} {c : Nat} {g : Bool} {k : Nat} : shd w h st c g k = -1 ↔ exd w h st c g k = false := by
  unfold shd exd
  by_cases q : fa_first (shp h st c g k) (rch w c g) < rch w c g
  · rw [if_pos q]
    have := fa_first_yes _ _ q
    constructor
    · intro z; omega
    · intro z
      rw [List.any_eq_false] at z
      exact absurd this (z _ (List.mem_range.mpr q))
  · rw [if_neg q]
    refine ⟨fun _ => ?_, fun _ => rfl⟩
    rw [List.any_eq_false]
    intro e he
    have h1 := fa_first_no (shp h st c g k) (rch w c g) e (by have := List.mem_range.mp he; omega)
    exact fun z => by
      have z2 : shp h st c g k e = true := z
      rw [h1] at z2
      cases z2
def sdh (j : Nat) : Bool := decide (¬ j < 6)
theorem stp_bd {s j : Nat} (hs : s < 4) (hj : j < 12) : 1 ≤ stp s j ∧ stp s j ≤ 24 := by
  unfold stp
  have h1 : 1 ≤ (if j < 6 then j + 1 else 12 - j) ∧ (if j < 6 then j + 1 else 12 - j) ≤ 6 := by split <;> omega
  constructor
  · exact Nat.mul_pos (by omega) h1.1
  · exact Nat.le_trans (Nat.mul_le_mul (show s + 1 ≤ 4 by omega) h1.2) (by omega)
theorem lit_shd (w : Nat) (h st : Nat → Int) (c s j : Nat) : lit w h st c s j = true ↔ shd w h st c (sdh j) (stp s j) = -1 := by
  rw [shd_none]
  unfold lit stp sdh
  by_cases q : j < 6
  · simp [q]
  · simp [q]
theorem x_steep {S : St} {s j : Nat} (hj : j < 12) : m_X5_steepness (iI s) (iI j) S = some (iI (stp s j : Nat), S) := by
  unfold m_X5_steepness stp
  rw [l6, l1, l12]
  by_cases q : j < 6
  · rw [lt_t (by omega), if_pos q, iI_add, iI_add, iI_mul]
    push_cast; rfl
  · rw [lt_f (by omega), if_neg q, iI_add, iI_sub, iI_mul]
    rw [Int.natCast_mul, Int.natCast_sub (by omega)]
    push_cast; rfl
theorem m_steep {S : St} {s j : Nat} (hj : j < 12) : m_X7_steepOf (iI s) (iI j) S = some (iI (stp s j : Nat), S) := x_steep hj
theorem x_shader {S : St} {w N : Nat} {h st dy : Nat → Int} (G : Gr w N h st dy) (X : GX S w N h st dy) {c s j : Nat} (hc : c < N) (hs : s < 4) (hj : j < 12) : m_X5_nearestShader (iI c) (iI s) (iI j) S = some (iI (shd w h st c (sdh j) (stp s j)), S) := by
  obtain ⟨hw, hN⟩ := G.w4
  have hst := stp_bd hs hj
  have main : ∀ g : Bool, it1 (b_X5_nearestShader_25 (iI c) (iI s) (iI j) (iI (sd g)) (iI (rch w c g : Nat)) (fun S10 => some ((-1 : Int32), S10))) 5000 (1 : Int32) S = some (iI (shd w h st c g (stp s j)), S) := by
    intro g
    have hr3 := rch_le (w := w) (by omega) c g
    have hf := fa_first_le (shp h st c g (stp s j)) (rch w c g)
    refine it1_inv (fun i x T => x = iI ((i + 1 : Nat) : Int) ∧ T = S) (fa_first (shp h st c g (stp s j)) (rch w c g)) (fun o => o = some (iI (shd w h st c g (stp s j)), S)) ?_ ?_ 5000 0 _ S (Nat.zero_le _) (by omega) ⟨rfl, rfl⟩
    · rintro i x T hi ⟨rfl, rfl⟩ rec
      have hp := fa_first_no _ _ i hi
      have hb := rs_bd G c (oth c (i + 1) g)
      unfold shp at hp
      rw [decide_eq_false_iff_not] at hp
      refine ⟨iI ((i + 1 + 1 : Nat) : Int), T, ⟨rfl, rfl⟩, ?_⟩
      unfold b_X5_nearestShader_25
      have hm : (i + 1) * stp s j ≤ 4 * 24 := Nat.mul_le_mul (by omega) hst.2
      rw [lt_f (by omega), iI_mul, x_rise G X hc (by omega), bnd_some, x_steep hj, bnd_some, iI_mul, show ((i + 1 : Nat) : Int) * (stp s j : Nat) = (((i + 1) * stp s j : Nat) : Int) by push_cast; rfl, lt_f (by omega), l1, iI_add]
      rfl
    · rintro x T ⟨rfl, rfl⟩ rec
      unfold b_X5_nearestShader_25 shd
      by_cases q : fa_first (shp h st c g (stp s j)) (rch w c g) < rch w c g
      · have hp := fa_first_yes _ _ q
        generalize fa_first (shp h st c g (stp s j)) (rch w c g) = i at *
        have hb := rs_bd G c (oth c (i + 1) g)
        unfold shp at hp
        rw [decide_eq_true_eq] at hp
        have hm : (i + 1) * stp s j ≤ 4 * 24 := Nat.mul_le_mul (by omega) hst.2
        rw [lt_f (by omega), iI_mul, x_rise G X hc (by omega), bnd_some, x_steep hj, bnd_some, iI_mul, show ((i + 1 : Nat) : Int) * (stp s j : Nat) = (((i + 1) * stp s j : Nat) : Int) by push_cast; rfl, lt_t (by omega), if_pos q, iI_add, oth_int (G.in_row hc (by omega)).2]
      · rw [lt_t (by omega), if_neg q]
        rfl
  unfold m_X5_nearestShader
  rw [l6]
  by_cases q : j < 6
  · rw [lt_t (by omega), show (-1 : Int32) = iI (sd false) from rfl, x_reach G X hc false, bnd_some]
    have := main false
    unfold sdh
    simp only [q, not_true, decide_false]
    exact this
  · rw [lt_f (by omega), show (1 : Int32) = iI (sd true) from rfl, x_reach G X hc true, bnd_some]
    have := main true
    unfold sdh
    simp only [q, not_false_iff, decide_true]
    exact this
/-- the reference's view of the ground -/
def GV (S : St) (w N : Nat) (h st dy : Nat → Int) : Prop := gI S 42 0 = iI w ∧ gI S 41 0 = iI N ∧ (∀ c, c < N → gI S 2 c = iI (h c)) ∧ (∀ c, c < 12 → gI S 3 c = iI (st c)) ∧ (∀ s, s < 4 → gI S 5 s = iI (dy s))
theorem div_row {w c d : Nat} {g : Bool} (hw : w = 1 ∨ w = 2 ∨ w = 3 ∨ w = 4) (hd : g = false → d ≤ c + 1) : (d ≤ rch w c g ↔ (((c / w) * w : Nat) : Int) ≤ (c : Int) + sd g * d ∧ (c : Int) + sd g * d < (((c / w + 1) * w : Nat) : Int)) := by
  unfold rch sd
  cases g
  · have := hd rfl
    rcases hw with rfl | rfl | rfl | rfl <;> simp <;> omega
  · rcases hw with rfl | rfl | rfl | rfl <;> simp <;> omega
theorem m_shader {S : St} {w N : Nat} {h st dy : Nat → Int} (G : Gr w N h st dy) (X : GV S w N h st dy) {c s j : Nat} (hc : c < N) (hs : s < 4) (hj : j < 12) : m_X7_shadeOf (iI c) (iI s) (iI j) S = some (iI (shd w h st c (sdh j) (stp s j)), S) := by
  obtain ⟨hw, hN⟩ := G.w4
  obtain ⟨X1, X2, X3, X4, X5⟩ := X
  have hst := stp_bd hs hj
  have hcw : c / w ≤ c := Nat.div_le_self c w
  have main : ∀ g : Bool, it2 (b_X7_shadeOf_30 (iI c) (iI s) (iI j) (iI (sd g)) (iI ((c / w : Nat) : Int)) (fun S10 => some ((-1 : Int32), S10))) 5000 (1 : Int32) (iI ((c : Int) + sd g)) S = some (iI (shd w h st c g (stp s j)), S) := by
    intro g
    have hr3 := rch_le (w := w) (by omega) c g
    have hf := fa_first_le (shp h st c g (stp s j)) (rch w c g)
    have hsd : sd g = 1 ∨ sd g = -1 := by unfold sd; cases g <;> simp
    have hrw : (c / w) * w ≤ 12 ∧ (c / w + 1) * w ≤ 16 := by rcases hw with rfl | rfl | rfl | rfl <;> omega
    refine it2_inv (fun i x y T => x = iI ((i + 1 : Nat) : Int) ∧ y = iI ((c : Int) + sd g * ((i + 1 : Nat) : Int)) ∧ T = S) (fa_first (shp h st c g (stp s j)) (rch w c g)) (fun o => o = some (iI (shd w h st c g (stp s j)), S)) ?_ ?_ 5000 0 _ _ S (Nat.zero_le _) (by omega) ⟨rfl, by rw [show ((0 + 1 : Nat) : Int) = 1 from rfl, Int.mul_one], rfl⟩
    · rintro i x y T hi ⟨rfl, rfl, rfl⟩ rec
      have hp := fa_first_no _ _ i hi
      have hb := rs_bd G c (oth c (i + 1) g)
      obtain ⟨ho, hg⟩ := G.in_row (g := g) (d := i + 1) hc (by omega)
      have hrow := (div_row (w := w) (c := c) (d := i + 1) (g := g) hw (fun e => by have := hg e; omega)).mp (by omega)
      have eo := oth_int hg
      unfold shp at hp
      rw [decide_eq_false_iff_not] at hp
      refine ⟨iI ((i + 1 + 1 : Nat) : Int), iI ((c : Int) + sd g * ((i + 1 + 1 : Nat) : Int)), T, ⟨rfl, rfl, rfl⟩, ?_⟩
      unfold b_X7_shadeOf_30
      have hm : (i + 1) * stp s j ≤ 4 * 24 := Nat.mul_le_mul (by omega) hst.2
      rw [X1, iI_mul, l1, iI_add, iI_mul, show ((c / w : Nat) : Int) * (w : Int) = ((c / w * w : Nat) : Int) by push_cast; rfl, show (((c / w : Nat) : Int) + 1) * (w : Int) = (((c / w + 1) * w : Nat) : Int) by push_cast; rfl, eo]
      rw [eo] at hrow
      rw [lt_f (by omega), lt_t (by omega), chk_t (by omega), chk_t (by omega), chk_t (by omega), m_steep hj, bnd_some, ix_n (by omega), ix_n (by omega), X3 _ ho, X4 _ (by omega), X3 _ hc, iI_add, iI_sub, iI_mul, show ((i + 1 : Nat) : Int) * (stp s j : Nat) = (((i + 1) * stp s j : Nat) : Int) by push_cast; rfl]
      rw [lt_f (by unfold rs at hp hb; omega), iI_add, nm_eq, iI_add]
      congr 1
      rw [← eo]
      congr 1
      push_cast
      rcases hsd with q | q <;> rw [q] <;> omega
    · rintro x y T ⟨rfl, rfl, rfl⟩ rec
      unfold b_X7_shadeOf_30 shd
      rw [X1, iI_mul, l1, iI_add, iI_mul, show ((c / w : Nat) : Int) * (w : Int) = ((c / w * w : Nat) : Int) by push_cast; rfl, show (((c / w : Nat) : Int) + 1) * (w : Int) = (((c / w + 1) * w : Nat) : Int) by push_cast; rfl]
      by_cases q : fa_first (shp h st c g (stp s j)) (rch w c g) < rch w c g
      · have hp := fa_first_yes _ _ q
        generalize fa_first (shp h st c g (stp s j)) (rch w c g) = i at *
        have hb := rs_bd G c (oth c (i + 1) g)
        obtain ⟨ho, hg⟩ := G.in_row (g := g) (d := i + 1) hc (by omega)
        have hrow := (div_row (w := w) (c := c) (d := i + 1) (g := g) hw (fun e => by have := hg e; omega)).mp (by omega)
        have eo := oth_int hg
        unfold shp at hp
        rw [decide_eq_true_eq] at hp
        have hm : (i + 1) * stp s j ≤ 4 * 24 := Nat.mul_le_mul (by omega) hst.2
        rw [eo] at hrow
        rw [eo, lt_f (by omega), lt_t (by omega), chk_t (by omega), chk_t (by omega), chk_t (by omega), m_steep hj, bnd_some, ix_n (by omega), ix_n (by omega), X3 _ ho, X4 _ (by omega), X3 _ hc, iI_add, iI_sub, iI_mul, show ((i + 1 : Nat) : Int) * (stp s j : Nat) = (((i + 1) * stp s j : Nat) : Int) by push_cast; rfl]
        rw [lt_t (by unfold rs at hp hb; omega), if_pos q]
      · have e1 : fa_first (shp h st c g (stp s j)) (rch w c g) = rch w c g := by omega
        rw [if_neg q, e1]
        have hg : g = false → rch w c g + 1 ≤ c + 1 := fun e => by subst e; unfold rch; simp; exact Nat.mod_le c w
        have hrow := (div_row (w := w) (c := c) (d := rch w c g + 1) (g := g) hw hg)
        have hno : ¬ ((((c / w) * w : Nat) : Int) ≤ (c : Int) + sd g * ((rch w c g + 1 : Nat) : Int) ∧ (c : Int) + sd g * ((rch w c g + 1 : Nat) : Int) < (((c / w + 1) * w : Nat) : Int)) := fun z => by have := hrow.mpr z; omega
        have hbd : -4 ≤ sd g * ((rch w c g + 1 : Nat) : Int) ∧ sd g * ((rch w c g + 1 : Nat) : Int) ≤ 4 := by rcases hsd with q | q <;> rw [q] <;> omega
        by_cases z : (c : Int) + sd g * ((rch w c g + 1 : Nat) : Int) < (((c / w) * w : Nat) : Int)
        · rw [lt_t (by omega)]
          rfl
        · rw [lt_f (by omega), lt_f (by omega)]
          rfl
  unfold m_X7_shadeOf
  have ed : iI (c : Int) / iI (w : Int) = iI ((c / w : Nat) : Int) := by
    rw [iI_n, iI_n, iI_n]
    exact pk_div (by omega) (by omega) (by omega)
  have ne : iI (w : Int) ≠ 0 := fun z => by
    have := (iI_eq (a := w) (b := 0) (by omega) (by omega) (by omega) (by omega)).mp z
    omega
  rw [l6]
  by_cases q : j < 6
  · rw [lt_t (by omega), X1, dchk_t ne, ed, nm_eq, lm1, iI_add, nm_eq]
    have := main false
    unfold sdh
    simp only [q, not_true, decide_false]
    exact this
  · rw [lt_f (by omega), X1, dchk_t ne, ed, nm_eq, l1, iI_add, nm_eq]
    have := main true
    unfold sdh
    simp only [q, not_false_iff, decide_true]
    exact this
