/-! PURE: parts and plants as functions of the data; the relation -/
/-- the cells next to those of a set, on a ground of N cells in rows w wide -/
def colm (w N q : Nat) : Nat := bs (fun c => decide (c % w = q)) N
def nbr (w N x : Nat) : Nat := ((x &&& ((2 ^ N - 1) ^^^ colm w N (w - 1))) <<< 1) ||| ((x &&& ((2 ^ N - 1) ^^^ colm w N 0)) >>> 1) ||| (x <<< w) ||| (x >>> w)
def grw (w N v x : Nat) : Nat := x ||| (nbr w N x &&& v)
def rep (f : Nat → Nat) : Nat → Nat → Nat
  | 0, x => x
  | k + 1, x => rep f k (f x)
def lowb (v : Nat) : Nat := v &&& (v ^^^ (v - 1))
def hang (w N v : Nat) : Bool := rep (grw w N v) 12 (lowb v) == v
def okP (w N v : Nat) : Bool := hang w N v && hang w N (2 ^ N - 1 - v)
def sumP (N : Nat) (y : Nat → Int) (v : Nat) : Int := sm (fun c => if v.testBit c then y c else -y c) N
def difP (N : Nat) (y : Nat → Int) (v : Nat) : Int := if sumP N y v < 0 then -sumP N y v else sumP N y v
def bst (ok : Nat → Bool) (df : Nat → Int) : Nat → Int
  | 0 => -1
  | i + 1 => if (bst ok df i = -1 ∨ df (2 * i + 1) < df (bst ok df i).toNat) ∧ ok (2 * i + 1) = true then ((2 * i + 1 : Nat) : Int) else bst ok df i
def fpP (w N : Nat) (y : Nat → Int) : Int := bst (okP w N) (difP N y) ((2 ^ N - 1) / 2)
def fpD (D : Nat → Nat → Int) : Int := fpP (wD D) (ND D) (yD D)
def dfD (D : Nat → Nat → Int) : Int := if fpD D = -1 then -1 else difP (ND D) (yD D) (fpD D).toNat
def fiv (k : Nat) : Nat := if k = 0 then 1 else if k = 1 then 5 else 25
def may (nd : Nat → Int) (y : Int) (code k : Nat) : Bool := decide (nd k ≤ y) && decide (code / fiv k % 5 < 4)
def mxI (a b : Int) : Int := if a < b then b else a
def Vs (nd py : Nat → Int) (y : Int) (V : Nat → Int) (code : Nat) : Nat → Int
  | 0 => V code
  | k + 1 => if may nd y code k then mxI (Vs nd py y V code k) (py k + V (code + fiv k)) else Vs nd py y V code k
/-- the most that the last k cells pay -/
def Vf (nd py y : Nat → Int) (N : Nat) : Nat → Nat → Int
  | 0, _ => 0
  | k + 1, code => Vs nd py (y (N - (k + 1))) (Vf nd py y N k) code 3
def hit (nd py y : Nat → Int) (N c code k : Nat) : Bool := may nd (y c) code k && decide (py k + Vf nd py y N (N - (c + 1)) (code + fiv k) = Vf nd py y N (N - c) code)
def chs (nd py y : Nat → Int) (N c code : Nat) : Int := if Vf nd py y N (N - (c + 1)) code = Vf nd py y N (N - c) code then -1 else if hit nd py y N c code 0 then 0 else if hit nd py y N c code 1 then 1 else 2
def wgt (s : Int) : Nat := if s = -1 then 0 else fiv s.toNat
def cod (nd py y : Nat → Int) (N : Nat) : Nat → Nat
  | 0 => 0
  | c + 1 => cod nd py y N c + wgt (chs nd py y N c (cod nd py y N c))
def moD (D : Nat → Nat → Int) : Int := Vf (D 8) (D 9) (yD D) (ND D) (ND D) 0
def soD (D : Nat → Nat → Int) (c : Nat) : Int := chs (D 8) (D 9) (yD D) (ND D) c (cod (D 8) (D 9) (yD D) (ND D) c)
def Pk (S : St) (D : Nat → Nat → Int) : Prop := gI S 56 0 = iI 0 ∨ (gI S 56 0 = iI 1 ∧ gI S 50 0 = iI (fpD D) ∧ gI S 51 0 = iI (dfD D))
def Pl (S : St) (D : Nat → Nat → Int) : Prop := gI S 57 0 = iI 0 ∨ (gI S 57 0 = iI 1 ∧ gI S 20 0 = iI (moD D) ∧ ∀ c, c < ND D → gI S 19 c = iI (soD D c))
/-- the class's state tells the data D -/
def RX (S : St) (D : Nat → Nat → Int) : Prop := BaX S D ∧ ItX S D ∧ Der S D ∧ Pk S D ∧ Pl S D
def RM_ (S : St) (D : Nat → Nat → Int) : Prop := BaM S D ∧ ItM S D
def Rel (SX SM : St) : Prop := ∃ D, Rg D ∧ RX SX D ∧ RM_ SM D
theorem RM_.fr {S T : St} {D : Nat → Nat → Int} {K : List Nat} (h : RM_ S D) (F : Fr K S T) (hk : ∀ a ∈ inM, a ∉ K) : RM_ T D := ⟨h.1.fr F hk, h.2.fr F hk⟩
theorem Lx.fr {S T : St} {t : Nat → Int} {n : Nat} {K : List Nat} (h : Lx S t n) (F : Fr K S T) (hk : ∀ a ∈ [41, 42, 43, 44, 8, 9], a ∉ K) : Lx T t n := by
  obtain ⟨h1, h2, h3, h4, h5⟩ := h
  refine ⟨by rw [F.1 _ _ (hk 44 (by decide)), h1], by rw [F.1 _ _ (hk 43 (by decide)), h2], by rw [F.1 _ _ (hk 42 (by decide)), h3], by rw [F.1 _ _ (hk 41 (by decide)), h4], fun c hc => ?_⟩
  rw [F.1 _ _ (hk 8 (by decide)), F.1 _ _ (hk 9 (by decide))]
  exact h5 c hc
theorem Ms.fr {S T : St} {w N : Nat} {h st dy : Nat → Int} {K : List Nat} (M : Ms S w N h st dy) (F : Fr K S T) (hk : ∀ a ∈ [12, 13, 14], a ∉ K) : Ms T w N h st dy := by
  refine ⟨fun c hc s hs => ?_, fun c hc => ?_⟩
  · rw [F.1 _ _ (hk 12 (by decide)), F.1 _ _ (hk 13 (by decide))]
    exact M.1 c hc s hs
  · rw [F.1 _ _ (hk 14 (by decide))]
    exact M.2 c hc
theorem Pk.fr {S T : St} {D : Nat → Nat → Int} {K : List Nat} (h : Pk S D) (F : Fr K S T) (hk : ∀ a ∈ [56, 50, 51], a ∉ K) : Pk T D := by
  unfold Pk at *
  rw [F.1 _ _ (hk 56 (by decide)), F.1 _ _ (hk 50 (by decide)), F.1 _ _ (hk 51 (by decide))]
  exact h
theorem Pl.fr {S T : St} {D : Nat → Nat → Int} {K : List Nat} (h : Pl S D) (F : Fr K S T) (hk : ∀ a ∈ [57, 20, 19], a ∉ K) : Pl T D := by
  unfold Pl at *
  rw [F.1 _ _ (hk 57 (by decide)), F.1 _ _ (hk 20 (by decide))]
  rcases h with h | ⟨h1, h2, h3⟩
  · exact Or.inl h
  · exact Or.inr ⟨h1, h2, fun c hc => by rw [F.1 _ _ (hk 19 (by decide))]; exact h3 c hc⟩
/-- what a class method that answers from scratch may change -/
def scrX : List Nat := [15, 16, 27, 28, 45, 46, 47, 48, 49, 52, 53]
theorem RX.scr {S T : St} {D : Nat → Nat → Int} (h : RX S D) (F : Fr scrX S T) : RX T D := ⟨h.1.fr F (by decide), h.2.1.fr F (by decide), ⟨h.2.2.1.1.fr F (by decide), h.2.2.1.2.fr F (by decide)⟩, h.2.2.2.1.fr F (by decide), h.2.2.2.2.fr F (by decide)⟩
/-- data that nothing is worked out of -/
theorem RX.up {S : St} {D : Nat → Nat → Int} (h : RX S D) {k : Nat} (j : Nat) (x : Int) (hk : k ∈ [4, 6, 7, 14, 15, 44, 45]) : RX (sI S (phi k) j (iI x)) (upD D k j x) := by
  obtain ⟨h1, h2, ⟨h3, h4⟩, h5, h6⟩ := h
  have hs : 0 < szT k := by
    simp only [List.mem_cons, List.not_mem_nil, or_false] at hk
    rcases hk with rfl | rfl | rfl | rfl | rfl | rfl | rfl <;> decide
  have hn : k ≠ 1 ∧ k ≠ 3 ∧ k ≠ 5 ∧ k ≠ 8 ∧ k ≠ 9 ∧ k ≠ 17 ∧ k ≠ 19 ∧ k ≠ 20 ∧ k ≠ 40 := by
    simp only [List.mem_cons, List.not_mem_nil, or_false] at hk
    rcases hk with rfl | rfl | rfl | rfl | rfl | rfl | rfl <;> decide
  have e1 : upD D k j x 1 = D 1 := upD_o hn.1.symm
  have e3 : upD D k j x 3 = D 3 := upD_o hn.2.1.symm
  have e5 : upD D k j x 5 = D 5 := upD_o hn.2.2.1.symm
  have e8 : upD D k j x 8 = D 8 := upD_o hn.2.2.2.1.symm
  have e9 : upD D k j x 9 = D 9 := upD_o hn.2.2.2.2.1.symm
  have e17 : upD D k j x 17 = D 17 := upD_o hn.2.2.2.2.2.1.symm
  have e19 : upD D k j x 19 = D 19 := upD_o hn.2.2.2.2.2.2.1.symm
  have e20 : upD D k j x 20 = D 20 := upD_o hn.2.2.2.2.2.2.2.1.symm
  have e40 : upD D k j x 40 = D 40 := upD_o hn.2.2.2.2.2.2.2.2.symm
  have en : nD (upD D k j x) = nD D := by unfold nD; rw [e40]
  have ew : wD (upD D k j x) = wD D := by unfold wD; rw [e1, en]
  have eN : ND (upD D k j x) = ND D := by unfold ND rD; rw [ew, e1, en]
  have eh : hD (upD D k j x) = hD D := by funext c; unfold hD; rw [eN, e1, ew]
  have ey : yD (upD D k j x) = yD D := by funext c; unfold yD; rw [ew, eh, e3, e5]
  have F : Fr [phi k] S (sI S (phi k) j (iI x)) := Fr.rf.set (List.mem_singleton.mpr rfl)
  have hd : phi k ∉ [41, 42, 43, 44, 8, 9] ∧ phi k ∉ [12, 13, 14] ∧ phi k ∉ [56, 50, 51] ∧ phi k ∉ [57, 20, 19] ∧ phi k ≠ 24 ∧ phi k ≠ 22 := by
    simp only [List.mem_cons, List.not_mem_nil, or_false] at hk
    rcases hk with rfl | rfl | rfl | rfl | rfl | rfl | rfl <;> decide
  have dis : ∀ l : List Nat, phi k ∉ l → ∀ a ∈ l, a ∉ [phi k] := fun l h a ha hb => h (List.mem_singleton.mp hb ▸ ha)
  refine ⟨h1.up hs j x, ?_, ⟨?_, ?_⟩, ?_, ?_⟩
  · refine ItX.cong (D := D) ⟨fun s hs => ?_, fun s hs hq i hi => ?_⟩ ⟨e17.symm, e19.symm, e20.symm⟩
    · rw [gI_sI_n (Ne.symm hd.2.2.2.2.1)]; exact h2.1 s hs
    · rw [gI_sI_n (Ne.symm hd.2.2.2.2.2)]; exact h2.2 s hs hq i hi
  · rw [e1, en]; exact h3.fr F (dis _ hd.1)
  · rw [ew, eN, eh, e3, e5]; exact h4.fr F (dis _ hd.2.1)
  · have := h5.fr F (dis _ hd.2.2.1)
    unfold Pk dfD fpD at *
    rw [ew, eN, ey]; exact this
  · have := h6.fr F (dis _ hd.2.2.2.1)
    unfold Pl moD soD at *
    rw [e8, e9, eN, ey]; exact this
theorem RM_.up {S : St} {D : Nat → Nat → Int} (h : RM_ S D) {k : Nat} (j : Nat) (x : Int) (hk : k ∉ [17, 19, 20]) : RM_ (sI S k j (iI x)) (upD D k j x) := by
  simp only [List.mem_cons, List.not_mem_nil, or_false, not_or] at hk
  refine ⟨h.1.up k j x, ItM.cong (D := D) ⟨fun s hs => ?_, fun s hs hq => ?_, fun s hs hq i hi => ?_⟩ ⟨(upD_o (Ne.symm hk.1)).symm, (upD_o (Ne.symm hk.2.1)).symm, (upD_o (Ne.symm hk.2.2)).symm⟩⟩
  · rw [gI_sI_n (Ne.symm hk.1)]; exact h.2.1 s hs
  · rw [gI_sI_n (Ne.symm hk.2.1)]; exact h.2.2.1 s hs hq
  · rw [gI_sI_n (Ne.symm hk.2.2)]; exact h.2.2.2 s hs hq i hi
