def cls (D : Nat → Nat → Int) (h : Int64) : Nat → Int64
  | 0 => h
  | i + 1 => d11 D i (cls D h i)
def ows (D : Nat → Nat → Int) (h : Int64) : Nat → Int64
  | 0 => h
  | i + 1 => 31 * (31 * ows D h i + (nI (hasB D i)).toInt64) + (iI (hasY D i)).toInt64
def agQ (D : Nat → Nat → Int) : Int := if 0 < ND D then agV D 0 900 0 else -2
def hd0 (D : Nat → Nat → Int) : Int64 := 31 * fo (fun j => (iI (cntV D j)).toInt64) 17 8 + (iI (ft (D 1) (nD D))).toInt64
def tl8 (D : Nat → Nat → Int) (h : Int64) : Int64 := 31 * (31 * (31 * (31 * (31 * (31 * (31 * (31 * h + (iI (dfD D)).toInt64) + (iI (fpD D)).toInt64) + (iI (agQ D)).toInt64) + (iI (pairD D)).toInt64) + (iI (ringD D)).toInt64) + (iI (setV D (-1))).toInt64) + (nI (whB D)).toInt64) + (nI (pc (whO D) 12)).toInt64
def dgD (D : Nat → Nat → Int) : Int64 := tl8 D (ows D (cls D (hd0 D) (ND D)) 4)
theorem x_agQ {S : St} {D : Nat → Nat → Int} (R : Rg D) (X : RX S D) : ∃ T, m_X6_again (0 : Int32) (900 : Int32) (0 : Int32) S = some (iI (agQ D), T) ∧ RX T D := by
  by_cases q : 0 < ND D
  · obtain ⟨T, t1, t2⟩ := x_again R X (c := 0) (z := 900) (a := 0) q (by omega) (by omega)
    refine ⟨T, ?_, t2⟩
    unfold agQ
    rw [if_pos q]
    exact t1
  · refine ⟨S, ?_, X⟩
    unfold agQ m_X6_again
    rw [if_neg q, show m_X6_isCell (0 : Int32) S = _ from x_isCell X (a := 0) (by omega), bnd_some, ite01, if_neg (by omega)]
    rfl
theorem x_tail {S : St} {D : Nat → Nat → Int} (R : Rg D) (X : RX S D) {h : Int64} : ∃ T, (bnd (m_X6_parts (0 : Int32) S) fun r27 S26 => bnd (m_X6_mix h (r27).toInt64 S26) fun r29 S28 => bnd (m_X6_parts (1 : Int32) S28) fun r31 S30 => bnd (m_X6_mix r29 (r31).toInt64 S30) fun r33 S32 => bnd (m_X6_again (0 : Int32) (900 : Int32) (0 : Int32) S32) fun r35 S34 => bnd (m_X6_mix r33 (r35).toInt64 S34) fun r37 S36 => bnd (m_X6_changes (0 : Int32) S36) fun r39 S38 => bnd (m_X6_mix r37 (r39).toInt64 S38) fun r41 S40 => bnd (m_X6_changes (1 : Int32) S40) fun r43 S42 => bnd (m_X6_mix r41 (r43).toInt64 S42) fun r45 S44 => bnd (m_X6_set (-1 : Int32) S44) fun r47 S46 => bnd (m_X6_mix r45 (r47).toInt64 S46) fun r49 S48 => bnd (m_X6_whose (0 : Int32) S48) fun r51 S50 => bnd (m_X6_mix r49 (r51).toInt64 S50) fun r53 S52 => bnd (m_X6_whose (1 : Int32) S52) fun r55 S54 => bnd (m_X6_mix r53 (r55).toInt64 S54) fun r57 S56 => some (r57, S56)) = some (tl8 D h, T) ∧ RX T D := by
  obtain ⟨A, a1, a2⟩ := x_parts R X (a := 0) (by omega)
  obtain ⟨B, b1, b2⟩ := x_parts R a2 (a := 1) (by omega)
  obtain ⟨C, c1, c2⟩ := x_agQ R b2
  obtain ⟨E, e1, e2⟩ := x_set R c2 (a := -1) (Or.inl rfl)
  refine ⟨E, ?_, e2⟩
  unfold m_X6_mix
  rw [show m_X6_parts (0 : Int32) S = _ from a1, bnd_some, bnd_some, show m_X6_parts (1 : Int32) A = _ from b1, bnd_some, bnd_some, c1, bnd_some, bnd_some, show m_X6_changes (0 : Int32) C = _ from x_changes R c2 (w := 0) (by omega), bnd_some, bnd_some, show m_X6_changes (1 : Int32) C = _ from x_changes R c2 (w := 1) (by omega), bnd_some, bnd_some, show m_X6_set (-1 : Int32) C = _ from e1, bnd_some, bnd_some, show m_X6_whose (0 : Int32) E = _ from x_whose R e2 (w := 0) (by omega), bnd_some, bnd_some, show m_X6_whose (1 : Int32) E = _ from x_whose R e2 (w := 1) (by omega), bnd_some, bnd_some]
  rfl
