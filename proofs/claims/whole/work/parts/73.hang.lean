/-! PURE: sets of cells as bits; the class's hangs -/
theorem bt_n (n : Nat) {i : Nat} (hi : i < 32) : bt (nI n) i = n.testBit i := by
  unfold bt
  show (BitVec.ofNat 32 n).getLsbD i = _
  rw [BitVec.getLsbD_ofNat]
  simp [hi]
theorem n_xorm {x c N : Nat} (hN : N ≤ 12) (hx : x < 2 ^ N) (hc : c < 2 ^ N) : nI x &&& (nI c ^^^ (-1 : Int32)) = nI (x &&& ((2 ^ N - 1) ^^^ c)) := by
  refine b_ext (fun i hi => ?_)
  rw [b_and, b_xor, b_m1 i hi, bt_n _ hi, bt_n _ hi, bt_n _ hi, Nat.testBit_and, Nat.testBit_xor, Nat.testBit_two_pow_sub_one]
  by_cases h : i < N
  · simp [h]
  · have h1 : x.testBit i = false := Nat.testBit_lt_two_pow (Nat.lt_of_lt_of_le hx (Nat.pow_le_pow_right (by omega) (by omega)))
    simp [h1]
theorem n_shl {a k : Nat} (hk : k < 32) : nI a <<< (nI k &&& 31) = nI (a <<< k) := by
  refine b_ext (fun i hi => ?_)
  rw [b_shl k hk _ hi, bt_n _ hi, bt_n _ (by omega), Nat.testBit_shiftLeft]
theorem n_shr {a k : Nat} (ha : a < 2147483648) (hk : k < 31) : nI a >>> (nI k &&& 31) = nI (a >>> k) := by
  rw [pk_shrN (by omega) _ k (s_l k (by omega)), Nat.shiftRight_eq_div_pow]
theorem n_inj {a b : Nat} (ha : a < 2147483648) (hb : b < 2147483648) (h : nI a = nI b) : a = b := by
  rw [← iI_n, ← iI_n] at h
  have := (iI_eq (a := (a : Int)) (b := (b : Int)) (by omega) (by omega) (by omega) (by omega)).mp h
  omega
theorem full_x {v N : Nat} (h : v < 2 ^ N) : (2 ^ N - 1) &&& ((2 ^ N - 1) ^^^ v) = 2 ^ N - 1 - v := by
  refine Nat.eq_of_testBit_eq (fun i => ?_)
  rw [show 2 ^ N - 1 - v = 2 ^ N - (v + 1) by omega, Nat.testBit_two_pow_sub_succ h, Nat.testBit_and, Nat.testBit_xor, Nat.testBit_two_pow_sub_one]
  by_cases q : i < N
  · simp [q]
  · simp [q]
theorem low_c : ∀ a, a < 64 → ∀ b, b < 64 → nI (64 * a + b) &&& -(nI (64 * a + b)) = nI (lowb (64 * a + b)) := by decide +kernel
theorem n_low {v : Nat} (h : v < 4096) : nI v &&& -(nI v) = nI (lowb v) := by
  have := low_c (v / 64) (by omega) (v % 64) (by omega)
  rw [show 64 * (v / 64) + v % 64 = v by omega] at this
  exact this
theorem pw12 {N : Nat} (h : N ≤ 12) : 2 ^ N ≤ 4096 := Nat.pow_le_pow_right (n := 2) (by omega) h
theorem grw_lt {w N v x : Nat} (hv : v < 2 ^ N) (hx : x < 2 ^ N) : grw w N v x < 2 ^ N := Nat.or_lt_two_pow hx (Nat.and_lt_two_pow _ hv)
theorem rep_lt {w N v : Nat} (hv : v < 2 ^ N) : ∀ k x, x < 2 ^ N → rep (grw w N v) k x < 2 ^ N
  | 0, _, h => h
  | k + 1, x, h => rep_lt hv k _ (grw_lt hv h)
theorem rep_fix {g : Nat → Nat} {x : Nat} (h : g x = x) : ∀ k, rep g k x = x
  | 0 => rfl
  | k + 1 => by rw [rep, h]; exact rep_fix h k
theorem low_lt {v N : Nat} (h : v < 2 ^ N) : lowb v < 2 ^ N := by
  unfold lowb
  rw [Nat.and_comm]
  exact Nat.and_lt_two_pow _ h
/-- what prepare lays for the parting -/
def Pp (S : St) (w N : Nat) : Prop := gI S 46 0 = iI w ∧ gI S 47 0 = nI (2 ^ N - 1) ∧ gI S 48 0 = nI (colm w N 0) ∧ gI S 49 0 = nI (colm w N (w - 1))
theorem x_next {S : St} {w N x : Nat} (P : Pp S w N) (hN : N ≤ 12) (hw : w ≤ 4) (hx : x < 2 ^ N) : m_X2_nextTo (nI x) S = some (nI (nbr w N x), S) := by
  obtain ⟨h1, h2, h3, h4⟩ := P
  have c0 : colm w N 0 < 2 ^ N := bs_lt _ _
  have c1 : colm w N (w - 1) < 2 ^ N := bs_lt _ _
  have hp := pw12 hN
  have a2 : x &&& ((2 ^ N - 1) ^^^ colm w N 0) < 2 ^ N := by rw [Nat.and_comm]; exact Nat.and_lt_two_pow _ hx
  unfold m_X2_nextTo nbr
  rw [h1, h3, h4, nm_eq, nm_eq, n_xorm hN hx c1, n_xorm hN hx c0, iI_n w, show ((1 : Int32) &&& 31) = (nI 1 &&& 31) from rfl, n_shl (by omega), n_shr (by omega) (by omega), n_shl (by omega), n_shr (by omega) (by omega), fa_or, fa_or, fa_or]
theorem x_grow {S : St} {w N v : Nat} (P : Pp S w N) (hN : N ≤ 12) (hw : w ≤ 4) (hv : v < 2 ^ N) {kk : Int32 → St → Option (Int32 × St)} : ∀ (m n x : Nat), m ≤ 12 → m < n → x < 2 ^ N → it2 (b_X2_hangs_7 (nI v) kk) n (nI x) (iI ((12 - m : Nat) : Int)) S = kk (nI (rep (grw w N v) m x)) S := by
  have hp := pw12 hN
  intro m
  induction m with
  | zero =>
    intro n x h1 h2 h3
    obtain ⟨n, rfl⟩ : ∃ k, n = k + 1 := ⟨n - 1, by omega⟩
    rw [it2_s]
    unfold b_X2_hangs_7
    rw [l12, lt_f (by omega), rep]
  | succ m ih =>
    intro n x h1 h2 h3
    obtain ⟨n, rfl⟩ : ∃ k, n = k + 1 := ⟨n - 1, by omega⟩
    have hg := grw_lt (w := w) hv h3
    have ihm := ih n (grw w N v x) (by omega) (by omega) hg
    rw [it2_s]
    have e : b_X2_hangs_7 (nI v) kk (it2 (b_X2_hangs_7 (nI v) kk) n) (nI x) (iI ((12 - (m + 1) : Nat) : Int)) S = if nI (grw w N v x) = nI x then kk (nI x) S else it2 (b_X2_hangs_7 (nI v) kk) n (nI (grw w N v x)) (iI ((12 - m : Nat) : Int)) S := by
      generalize it2 (b_X2_hangs_7 (nI v) kk) n = rec
      unfold b_X2_hangs_7
      rw [l12, lt_t (by omega), x_next P hN hw h3, bnd_some, fa_and, fa_or, nm_eq, l1, iI_add, show (((12 - (m + 1) : Nat) : Int) + 1) = ((12 - m : Nat) : Int) by omega]
      rfl
    rw [e, ihm, rep]
    by_cases q : grw w N v x = x
    · rw [if_pos (by rw [q]), q, rep_fix q]
    · rw [if_neg (fun g => q (n_inj (by omega) (by omega) g))]
theorem x_hangs {S : St} {w N v : Nat} (P : Pp S w N) (hN : N ≤ 12) (hw : w ≤ 4) (hv : v < 2 ^ N) : m_X2_hangs (nI v) S = some (if hang w N v = true then 1 else 0, S) := by
  have hp := pw12 hN
  have hr := rep_lt (w := w) hv 12 _ (low_lt hv)
  unfold m_X2_hangs hang
  rw [n_low (by omega), nm_eq, show (0 : Int32) = iI ((12 - 12 : Nat) : Int) from rfl, x_grow P hN hw hv 12 5000 _ (by omega) (by omega) (low_lt hv)]
  by_cases q : rep (grw w N v) 12 (lowb v) = v
  · rw [if_pos (by rw [q]), if_pos (by rw [q]; exact beq_self_eq_true v)]
  · rw [if_neg (fun g => q (n_inj (by omega) (by omega) g)), if_neg (by rw [beq_iff_eq]; exact q)]
theorem x_both {S : St} {w N v : Nat} (P : Pp S w N) (hN : N ≤ 12) (hw : w ≤ 4) (hv : v < 2 ^ N) : m_X2_bothHang (nI v) S = some (if okP w N v = true then 1 else 0, S) := by
  have hp := pw12 hN
  have h0 : 0 < 2 ^ N := Nat.two_pow_pos N
  unfold m_X2_bothHang okP
  rw [x_hangs P hN hw hv, bnd_some, ite01]
  by_cases q : hang w N v = true
  · rw [if_pos q, P.2.1, n_xorm hN (by omega) hv, full_x hv, x_hangs P hN hw (by omega), bnd_some, ite01]
    by_cases q2 : hang w N (2 ^ N - 1 - v) = true
    · rw [if_pos q2, if_pos (by simp [q, q2])]
    · rw [if_neg q2, if_neg (by simp [q2])]
  · rw [if_neg q, if_neg (by simp [q])]
