set_option maxHeartbeats 4000000 in
set_option maxRecDepth 100000 in
/-- THE LAW, from its entry, over what the class and the reference agree on -/
theorem whole_open {p : Program} {e : Env} {s : State} {m : MethodId} {below : List Frame} {meth : Method} {c : Code} (l : Launch) {b L : Nat} {xs : Nat → Int32} (hL : L ≤ 3072) (C0 : lw_At p s m meth c b L xs) {Rel : St → St → Prop} {S1 : St} (hf : m_J7_fill_53178_26 1 S0X = some S1) (h0 : Rel S1 S0M) (a0 : Ag_type Rel) (a1 : Ag_wipe Rel) (a2 : Ag_fault Rel) (a3 : Ag_cell Rel) (a4 : Ag_stand Rel) (a5 : Ag_owner Rel) (a6 : Ag_read Rel) (a7 : Ag_days Rel) (a8 : Ag_steep Rel) (a9 : Ag_shade Rel) (a10 : Ag_light Rel) (a11 : Ag_hours Rel) (a12 : Ag_has Rel) (a13 : Ag_parts Rel) (a14 : Ag_taken Rel) (a15 : Ag_highest Rel) (a16 : Ag_again Rel) (a17 : Ag_worth Rel) (a18 : Ag_value Rel) (a19 : Ag_change Rel) (a20 : Ag_changes Rel) (a21 : Ag_sort Rel) (a22 : Ag_set Rel) (a23 : Ag_seen Rel) (a24 : Ag_forget Rel) (a25 : Ag_whose Rel) (a26 : Ag_clouds Rel) (a27 : Ag_clear Rel) (a28 : Ag_sheet Rel) (a29 : Ag_lose Rel) (a30 : Ag_put Rel) (a31 : Ag_get Rel) (a32 : Ag_copy Rel) (a33 : Ag_write Rel) (a34 : Ag_count Rel) (a35 : Ag_digest Rel) : W p l e room_1 s m #[Value.ref b] below meth c s.heap [] 0 0 (lw_Z below #[Value.ref b] s) (entryFrame m ([Value.ref b] : List Value).toArray 4) := by
  obtain ⟨hx, hb, hr, hml, hown, hts0, hX, hbl, hlocks, hgv⟩ := id C0
  have hts : ∀ w ∈ lw_tb, w.before #[Value.ref b] s = true := fun w h => hts0 w (tbl_of h)
  have hA : ∀ q : Nat, s.heap.size ≤ q → (fun q : Nat => s.heap.size ≤ q) q := fun _ h => h
  obtain ⟨c0, iS0, hKn0⟩ := u_known (C := RX0) (T := TX0) (N := 3) (n := 3) hts inX0 (hts _ q212)
  obtain ⟨c1, iS1, hKn1⟩ := u_known (C := RX1) (T := TX1) (N := 8) (n := 8) hts inX1 (hts _ q98)
  obtain ⟨c2, iS2, hKn2⟩ := u_known (C := RX2) (T := TX2) (N := 11) (n := 11) hts inX2 (hts _ q153)
  obtain ⟨c3, iS3, hKn3⟩ := u_known (C := RX3) (T := TX3) (N := 4) (n := 4) hts inX3 (hts _ q193)
  obtain ⟨c4, iS4, hKn4⟩ := u_known (C := RX4) (T := TX4) (N := 3) (n := 3) hts inX4 (hts _ q229)
  obtain ⟨c5, iS5, hKn5⟩ := u_known (C := RX5) (T := TX5) (N := 6) (n := 6) hts inX5 (hts _ q92)
  obtain ⟨c6, iS6, hKn6⟩ := u_known (C := RX6) (T := TX6) (N := 17) (n := 17) hts inX6 (hts _ q84)
  obtain ⟨c7, iS7, hKn7⟩ := u_known (C := RX7) (T := TX7) (N := 27) (n := 27) hts inX7 (hts _ q868)
  obtain ⟨dC, dI, hKc⟩ : ∃ (dC : Nat → ClassId) (dI : Nat → Nat → Nat), ∀ (k : Nat) (q : vw_C), clsX[k]? = some q → u_Kn s q.1 q.2.1 q.2.2 (dC k) (dI k) := by
    refine ⟨fun k => if k = 0 then c0 else if k = 1 then c1 else if k = 2 then c2 else if k = 3 then c3 else if k = 4 then c4 else if k = 5 then c5 else if k = 6 then c6 else c7, fun k => if k = 0 then iS0 else if k = 1 then iS1 else if k = 2 then iS2 else if k = 3 then iS3 else if k = 4 then iS4 else if k = 5 then iS5 else if k = 6 then iS6 else iS7, ?_⟩
    intro k q hq
    match k, hq with
    | 0, hq => cases hq; exact hKn0
    | 1, hq => cases hq; exact hKn1
    | 2, hq => cases hq; exact hKn2
    | 3, hq => cases hq; exact hKn3
    | 4, hq => cases hq; exact hKn4
    | 5, hq => cases hq; exact hKn5
    | 6, hq => cases hq; exact hKn6
    | 7, hq => cases hq; exact hKn7
    | k + 8, hq => simp [clsX] at hq
  obtain ⟨cI, kI, coI, fI, gI1, gI2⟩ := Cond.arrayClass_spec (hts _ q131)
  obtain ⟨cJ, kJ, coJ, fJ, gJ1, gJ2⟩ := Cond.arrayClass_spec (hts _ q227)
  obtain ⟨cZ, kZ, coZ, fZ, gZ1, gZ2⟩ := Cond.arrayClass_spec (hts _ q955)
  have hK : va_K (dC, dI) clsX (tyX cI cJ cZ) s := by
    refine ⟨hKc, fun k q h => ?_⟩
    match k, h with
    | 0, h => cases h; exact ⟨fun n z => ⟨fun k h => (by cases h), kI, gI1, coI, gI2⟩, fI⟩
    | 1, h => cases h; exact ⟨fun n z => ⟨fun k h => (by cases h), kJ, gJ1, coJ, gJ2⟩, fJ⟩
    | 2, h => cases h; exact ⟨fun n z => ⟨fun k h => (by cases h), kZ, gZ1, coZ, gZ2⟩, fZ⟩
    | k + 3, h => simp [tyX] at h
  have hN : NXI s := ⟨⟨va_Nw.of rfl (hts0 _ q105), va_Nw.of rfl (hts0 _ q107), va_Nw.of rfl (hts0 _ q111)⟩, va_Nw.of rfl (hts0 _ q133), va_Nw.of rfl (hts0 _ q93), va_Nw.of rfl (hts0 _ q99), va_Nw.of rfl (hts0 _ q154), va_Nw.of rfl (hts0 _ q194), va_Nw.of rfl (hts0 _ q213), va_Nw.of rfl (hts0 _ q230)⟩
  have hS : va_S (fun q : Nat => s.heap.size ≤ q) s.heap s.heap [] := va_S.rf
  have hP : va_P (dC, dI) clsX [] s.heap := fun k q h => by simp at h
  have hD : va_D (fun q : Nat => s.heap.size ≤ q) [] := ⟨fun i j p q h => by simp at h, fun k q h => by simp at h⟩
  have hl := lv_entry ([.ref b]) (n := 4) (Nat.le_of_ble_eq_true rfl)
  rw [lg_entry_eq]
  generalize (lg_sl ([.ref b]) ++ List.replicate (4 - (lg_sl ([.ref b])).length) Slot.unset).toArray = ls at hl ⊢
  have hl : lv_has ls 4 [(0, .ref b)] := hl
  refine va_new (ci := 6) (fs := [.null, .null, .null, .null, .null, .null, .null, .null, .null, .null, .null, .null, .null, .int 0, .int 0, .int 0, .int 0]) (C := RX6) (T := TX6) (N := 17) hx hb hts inX6 tyX6 tyX6_ok hown (hts _ q83) (hts _ q84) (hts _ q71) hK hP hD hS hA rfl (fun j hj => by rcases (show j = 0 ∨ j = 1 ∨ j = 2 ∨ j = 3 ∨ j = 4 ∨ j = 5 ∨ j = 6 ∨ j = 7 ∨ j = 8 ∨ j = 9 ∨ j = 10 ∨ j = 11 ∨ j = 12 ∨ j = 13 ∨ j = 14 ∨ j = 15 ∨ j = 16 by omega) with rfl | rfl | rfl | rfl | rfl | rfl | rfl | rfl | rfl | rfl | rfl | rfl | rfl | rfl | rfl | rfl | rfl <;> rfl) (Nat.le_of_ble_eq_true rfl) (Nat.le_of_ble_eq_true rfl) dL_law_0 (fun qX H hP hD hS => ?_)
  have hP : va_P (dC, dI) clsX [(qX, .inr (6, [.null, .null, .null, .null, .null, .null, .null, .null, .null, .null, .null, .null, .null, .int 0, .int 0, .int 0, .int 0]))] H := hP
  have hD : va_D (fun q : Nat => s.heap.size ≤ q) [(qX, .inr (6, [.null, .null, .null, .null, .null, .null, .null, .null, .null, .null, .null, .null, .null, .int 0, .int 0, .int 0, .int 0]))] := hD
  refine lv_dup hx hb dL_law_3 rfl ?_
  have hFc := va_free (wc := [(qX, .inr (6, [.null, .null, .null, .null, .null, .null, .null, .null, .null, .null, .null, .null, .null, .int 0, .int 0, .int 0, .int 0]))]) hD hS hA [0] rfl
  refine va_callv (va_runI (As := []) (rest := [.ref qX]) ⟨hx, hb, hml, hown, hts⟩ (c_X6_init (a := qX) hf H.size) (cwI 0 hts (GoodIn.tb (cons_tb q87)) rfl rfl rfl (hts _ q71) (hts _ q85) (hts _ q86) rfl (by decide +kernel) ⟨Nat.le_of_ble_eq_true rfl, Nat.le_of_ble_eq_true rfl⟩) ⟨PC.blind, fun U hU hW => ⟨rfl, by rw [hU], by rw [hU]; exact hP, va_K.moved hW.alike hK, hN.warm hW⟩⟩ rfl rfl hl.1 rfl (Nat.le_of_ble_eq_true rfl) dL_law_4 ⟨Nat.le_of_ble_eq_true rfl, Nat.le_of_ble_eq_true rfl⟩) hS (fun q _ h => hFc q h) hFc (fun adX t H1 locs1 ht hvm hp hB hsz hk1 hS1 => ?_)
  obtain ⟨hP1, hD1⟩ := hB
  rw [ht] at hP1
  subst hp
  obtain ⟨hP, hD⟩ := va_join (wr := []) hP hD [0] [] rfl rfl (by decide) (by decide) hk1 hFc hP1 hD1
  have hP : va_P (dC, dI) clsX (wX adX cI cJ cZ S1) H1 := hP
  have hD : va_D (fun q : Nat => s.heap.size ≤ q) (wX adX cI cJ cZ S1) := hD
  clear hP1 hD1 hk1 hFc
  refine lv_astore_n (lv' := [(1, .ref (adX 0)), (0, .ref b)]) hx hb dL_law_7 rfl hl (by decide) rfl (fun ls hl => ?_)
  refine va_new (ci := 7) (fs := [.null, .int 0, .int 0, .int 0, .int 0, .null, .null, .null, .null, .null, .null, .null, .null, .null, .null, .null, .null, .int 0, .null, .null, .null, .null, .null, .null, .null, .null, .int 0]) (C := RX7) (T := TX7) (N := 27) hx hb hts inX7 tyX7 tyX7_ok hown (hts _ q867) (hts _ q868) (hts _ q79) hK hP hD hS1 hA rfl (fun j hj => by rcases (show j = 0 ∨ j = 1 ∨ j = 2 ∨ j = 3 ∨ j = 4 ∨ j = 5 ∨ j = 6 ∨ j = 7 ∨ j = 8 ∨ j = 9 ∨ j = 10 ∨ j = 11 ∨ j = 12 ∨ j = 13 ∨ j = 14 ∨ j = 15 ∨ j = 16 ∨ j = 17 ∨ j = 18 ∨ j = 19 ∨ j = 20 ∨ j = 21 ∨ j = 22 ∨ j = 23 ∨ j = 24 ∨ j = 25 ∨ j = 26 by omega) with rfl | rfl | rfl | rfl | rfl | rfl | rfl | rfl | rfl | rfl | rfl | rfl | rfl | rfl | rfl | rfl | rfl | rfl | rfl | rfl | rfl | rfl | rfl | rfl | rfl | rfl | rfl <;> rfl) (Nat.le_of_ble_eq_true rfl) (Nat.le_of_ble_eq_true rfl) dL_law_8 (fun qM H hP hD hS => ?_)
  refine lv_dup hx hb dL_law_11 rfl ?_
  have hFc := va_free (wc := [(qM, .inr (7, [.null, .int 0, .int 0, .int 0, .int 0, .null, .null, .null, .null, .null, .null, .null, .null, .null, .null, .null, .null, .int 0, .null, .null, .null, .null, .null, .null, .null, .null, .int 0]))]) hD hS hA [32] rfl
  refine va_callv (va_runI (As := []) (rest := [.ref qM]) ⟨hx, hb, hml, hown, hts⟩ (c_X7_init (a := qM) H.size) (cwI 0 hts (GoodIn.tb (cons_tb q871)) rfl rfl rfl (hts _ q79) (hts _ q869) (hts _ q870) rfl (by decide +kernel) ⟨Nat.le_of_ble_eq_true rfl, Nat.le_of_ble_eq_true rfl⟩) ⟨PC.blind, fun U hU hW => ⟨rfl, by rw [hU], by rw [hU]; exact hP.sub [32] rfl, va_K.moved hW.alike hK, hN.warm hW⟩⟩ rfl rfl hl.1 rfl (Nat.le_of_ble_eq_true rfl) dL_law_12 ⟨Nat.le_of_ble_eq_true rfl, Nat.le_of_ble_eq_true rfl⟩) hS (fun q _ h => hFc q h) hFc (fun adM t H2 locs2 ht hvm hp hB hsz hk1 hS2 => ?_)
  obtain ⟨hP1, hD1⟩ := hB
  rw [ht] at hP1
  subst hp
  obtain ⟨hP, hD⟩ := va_join (wr := wX adX cI cJ cZ S1) hP hD [32] [0, 1, 2, 3, 4, 5, 6, 7, 8, 9, 10, 11, 12, 13, 14, 15, 16, 17, 18, 19, 20, 21, 22, 23, 24, 25, 26, 27, 28, 29, 30, 31] rfl rfl (by decide) (by decide) hk1 hFc hP1 hD1
  have hPX : va_P (dC, dI) clsX (wX adX cI cJ cZ S1) H2 := fun k q hk => hP k q (by rw [List.getElem?_append_left (List.getElem?_eq_some_iff.mp hk).1]; exact hk)
  have lX : (wX adX cI cJ cZ S1).length = 32 := rfl
  have hDX : va_D (fun q : Nat => s.heap.size ≤ q) (wX adX cI cJ cZ S1) := ⟨fun i j p q hi hj e => hD.1 i j p q (by rw [List.getElem?_append_left (List.getElem?_eq_some_iff.mp hi).1]; exact hi) (by rw [List.getElem?_append_left (List.getElem?_eq_some_iff.mp hj).1]; exact hj) e, fun k q hk => hD.2 k q (by rw [List.getElem?_append_left (List.getElem?_eq_some_iff.mp hk).1]; exact hk)⟩
  have hDM : va_D (fun q : Nat => s.heap.size ≤ q) (wM adM cI cJ cZ S0M) := ⟨hD1.1, fun k q hk => hFc _ (hD1.2 k q hk)⟩
  have C : CL p s m meth c b L xs (dC, dI) adX adM cI cJ cZ := by
    refine ⟨hx, hb, hml, hown, hts, hK, hN.1, hX, hbl, D_of (wX_fst adX cI cJ cZ) hDX, D_of (wM_fst adM cI cJ cZ) hDM, fun k hk => ?_, fun k hk => ?_, fun i j hi hj h => ?_⟩
    · obtain ⟨e1, g1⟩ := fst_ex (wX_fst adX cI cJ cZ S1) hk
      exact hDX.2 k _ g1
    · obtain ⟨e1, g1⟩ := fst_ex (wM_fst adM cI cJ cZ S0M) hk
      exact hDM.2 k _ g1
    · obtain ⟨e1, g1⟩ := fst_ex (wX_fst adX cI cJ cZ S1) hi
      obtain ⟨e2, g2⟩ := fst_ex (wM_fst adM cI cJ cZ S0M) hj
      have h5 := hD.1 i (32 + j) (adX i, e1) (adM j, e2) (by rw [List.getElem?_append_left (by rw [lX]; exact hi)]; exact g1) (by rw [List.getElem?_append_right (by rw [lX]; omega), lX, Nat.add_sub_cancel_left]; exact g2) h
      omega
  refine lv_astore_n (lv' := [(2, .ref (adM 0)), (1, .ref (adX 0)), (0, .ref b)]) hx hb dL_law_15 rfl hl (by decide) rfl (fun ls hl => ?_)
  refine lv_iconst (v := 0) hx hb dL_law_16 (by decide) ?_
  refine lv_istore_n (lv' := [(3, .int 0), (2, .ref (adM 0)), (1, .ref (adX 0)), (0, .ref b)]) hx hb dL_law_17 rfl hl (by decide) rfl (fun ls hl => ?_)
  exact law_body C hr hlocks hL a0 a1 a2 a3 a4 a5 a6 a7 a8 a9 a10 a11 a12 a13 a14 a15 a16 a17 a18 a19 a20 a21 a22 a23 a24 a25 a26 a27 a28 a29 a30 a31 a32 a33 a34 a35 (L + 6) 0 0 rfl (by omega) (by omega) S1 S0M h0 H2 locs2 ls hPX hP1 hS2 (lv_sub hl [3, 2, 1, 0] rfl)
