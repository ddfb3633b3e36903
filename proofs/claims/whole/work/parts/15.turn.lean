theorem rowT_eq {c : Nat} {S : St} (hI : Inv c S) {t : Nat} (ht : t < 12) (h2 : 2 ≤ sH S t) : rowT S t < sN S ∧ sK S (rowT S t) = sH S t := by
  obtain ⟨r, hr, e, e2⟩ := (hI.2.2.2.2.2.2.1 t ht).2 h2
  have er : rowT S t = r := by
    unfold rowT
    rw [e]
    exact cN_nI (by have := hI.1; have := hI.2.2.1; omega)
  rw [er]
  exact ⟨hr, e2⟩
theorem kep_row {S : St} {t : Nat} (h2 : 2 ≤ sH S t) : kep S t = wBf S (some (rowT S t)) (sC S (rowT S t)) := by
  unfold kep
  rw [if_pos h2]
theorem kep_no {S : St} {t : Nat} (h2 : ¬ 2 ≤ sH S t) : kep S t = wBf S none (sF S) := by
  unfold kep
  rw [if_neg h2]
theorem inv_kep {c : Nat} {S : St} (h : Inv c S) {t : Nat} (ht : t < 12) : Inv c (kep S t) := by
  have hI := h
  obtain ⟨h1, h2, h3, h4, h5, h6, h7, h8, h9⟩ := h
  by_cases q : 2 ≤ sH S t
  · rw [kep_row q]
    refine ⟨h1, h2, h3, h4, h5, h6, h7, fun r hr => ?_, h9⟩
    cases hr
    have e := rowT_eq hI ht q
    exact ⟨e.1, (h4 _ e.1).2.2.2⟩
  · rw [kep_no q]
    exact ⟨h1, h2, h3, h4, h5, h6, h7, fun r hr => (by cases hr), h9⟩
theorem kep_ok {S : St} {t : Nat} (h2 : 2 ≤ sH (kep S t) t) : sB (kep S t) = some (rowT (kep S t) t) ∧ sF (kep S t) = sC (kep S t) (rowT (kep S t) t) := by
  by_cases q : 2 ≤ sH S t
  · rw [kep_row q]
    exact ⟨rfl, rfl⟩
  · rw [kep_no q] at h2
    exact absurd h2 q
theorem movd_ok {c : Nat} {S : St} (hI : Inv c S) {a b : Nat} (ha : a < 12) (hb : b < 12) {p q n : Int32} (h : (movd S a p b q n).1 < 0) : ∃ k, k < 6 ∧ -(movd S a p b q n).1 = nI k := by
  unfold movd at h ⊢
  by_cases h1 : unl S a b = 0
  · rw [if_neg (fun q => q h1)] at h ⊢
    by_cases h2 : (hpl p n (zT S a) && hpl q n (zT S b)) = false
    · rw [if_pos h2]
      exact ⟨4, by decide, show -(-4 : Int32) = nI 4 by decide⟩
    · rw [if_neg h2] at h ⊢
      by_cases h3 : mvK S a (cN p) b (cN n) < cN n
      · simp only [if_pos h3]
        exact ⟨5, by decide, show -(-5 : Int32) = nI 5 by decide⟩
      · simp only [if_neg h3] at h
        have h4 : hpl p n (zT S a) = true := by
          cases hh : hpl p n (zT S a) with
          | true => rfl
          | false => rw [hh] at h2; exact absurd rfl h2
        obtain ⟨pp, nn, -, rfl, hb9⟩ := hpl_t (zT_le hI ha) h4
        have hz := zT_le hI ha
        exact absurd h (nI_pos (by omega))
  · rw [if_pos h1] at h ⊢
    unfold unl at h ⊢
    by_cases q1 : sH S a = 0 ∨ sH S b = 0
    · rw [if_pos q1]; exact ⟨1, by decide, show -(-1 : Int32) = nI 1 by decide⟩
    · rw [if_neg q1] at h ⊢
      by_cases q2 : sH S a = 1 ∨ sH S b = 1
      · rw [if_pos q2]; exact ⟨2, by decide, show -(-2 : Int32) = nI 2 by decide⟩
      · rw [if_neg q2] at h ⊢
        by_cases q3 : (isN (sH S a) || isN (sH S b)) = true ∧ sH S a ≠ sH S b
        · rw [if_pos q3]; exact ⟨3, by decide, show -(-3 : Int32) = nI 3 by decide⟩
        · rw [if_neg q3] at h; exact absurd (show (0 : Int32) < 0 from h) (by decide)
theorem fR_ok {k : Nat} (h : fR k < 0) : ∃ j, j < 6 ∧ -fR k = nI j := by
  unfold fR at h ⊢
  by_cases q1 : k = 0
  · rw [if_pos q1]; exact ⟨1, by decide, show -(-1 : Int32) = nI 1 by decide⟩
  · rw [if_neg q1] at h ⊢
    by_cases q2 : k = 1
    · rw [if_pos q2]; exact ⟨2, by decide, show -(-2 : Int32) = nI 2 by decide⟩
    · rw [if_neg q2] at h; exact absurd h (by decide)
theorem nI_ok {n : Nat} (hn : n < 2 ^ 31) (h : nI n < 0) : ∃ j, j < 6 ∧ -nI n = nI j := absurd h (nI_pos hn)
theorem tiK_eq (k : Int32) {m i : Nat} (hm : 0 < m) : tiK k m i = (fmd k m + i) % m := by
  unfold tiK fmd
  have h4 := Int.emod_nonneg k.toInt (show (m : Int) ≠ 0 by omega)
  have h5 := Int.emod_nonneg (k.toInt + (i : Int)) (show (m : Int) ≠ 0 by omega)
  have e : ((((k.toInt % (m : Int)).toNat + i) % m : Nat) : Int) = (k.toInt + (i : Int)) % (m : Int) := by
    rw [Int.natCast_emod, Int.natCast_add, Int.toNat_of_nonneg h4, Int.emod_add_emod]
  omega
set_option maxRecDepth 100000 in
set_option maxHeartbeats 4000000 in
theorem c_move (l : Launch) (D : va_G) (y : mY) (S0 : Nat) (M F : mp) (h0 : Nat) (A : Ad) (tr : Nat → Nat) (f : Nat → Nat → Int64) (g : Nat → Nat → Option Nat) (S : St) (hC : CW y h0 A tr f g S M) (c0 : Nat) (hI : Inv c0 S) (hR : CR A f g S) (a1 p1 b1 q1 n1 : Int32) : ct l yX3_move wsX3_move 3 69 0 0 D y S0 M F [.ref h0, .int a1, .int p1, .int b1, .int q1, .int n1] (fun v M' => v = some (.int (sp_move S a1 p1 b1 q1 n1).1) ∧ RC y h0 (sp_move S a1 p1 b1 q1 n1).2 M') := by
  refine ct_of cX3_move 6 (some .int) [(0, .ref h0), (1, .int a1), (2, .int p1), (3, .int b1), (4, .int q1), (5, .int n1)] (by decide +kernel) rfl (Nat.le_of_ble_eq_true rfl) rfl ?_
  intro p e s m below meth c ls C hnm hl w
  have hx := C.1
  have hb := C.2.1
  have hi_X0 : ∀ w ∈ u_ws RX0 TX0 5, w ∈ wsX3_move := by decide +kernel
  have hi_X3 : ∀ w ∈ u_ws RX3 TX3 7, w ∈ wsX3_move := by decide +kernel
  refine lv_iload_n hx hb dX3_move_0 rfl (lv_at hl 1 rfl) ?_
  refine m_callS C w hl.1 (As := [.int a1]) (rest := []) (c_isTray l D y S0 M F a1) ggX3_move_X3_isTray rfl (by decide +kernel) (by decide +kernel) (by decide +kernel) (show (_ ≠ _ ∧ _ ≠ _ ∧ _ = some 1) by decide +kernel) ⟨Nat.le_of_ble_eq_true rfl, Nat.le_of_ble_eq_true rfl⟩ rfl (Nat.le_of_ble_eq_true rfl) dX3_move_1 ⟨Nat.le_of_ble_eq_true rfl, Nat.le_of_ble_eq_true rfl⟩ (fun v M1 H locs hq w => ?_)
  obtain ⟨rfl, hM1⟩ := hq
  rw [hM1] at w
  clear hM1 M1
  refine W.eq (g2 := F0 m 4 ls [.int (bI (inP a1 12))]) rfl ?_
  refine lv_if_eq (tgt := 14) hx hb dX3_move_4 (by decide) (fun c_4 => ?_) (fun c_4 => ?_)
  · skip
    have n_4 : (inP a1 12) = false := bI_f c_4
    refine lv_bipush (v := (-6)) hx hb dX3_move_14 (by decide) ?_
    exact m_iret C w dX3_move_16 (by omega) (by omega) (⟨by rw [(show sp_move S a1 p1 b1 q1 n1 = (-6, S) by unfold sp_move; rw [if_pos (by first | simp [n_4, n_11] | simp [n_4])])], by rw [(show sp_move S a1 p1 b1 q1 n1 = (-6, S) by unfold sp_move; rw [if_pos (by first | simp [n_4, n_11] | simp [n_4])])]; exact ⟨A, tr, f, g, hC, hR⟩⟩)
  · skip
    have n_4 : (inP a1 12) = true := bI_t c_4
    refine lv_iload_n hx hb dX3_move_7 rfl (lv_at hl 3 rfl) ?_
    refine m_callS C w hl.1 (As := [.int b1]) (rest := []) (c_isTray l D y S0 M F b1) ggX3_move_X3_isTray rfl (by decide +kernel) (by decide +kernel) (by decide +kernel) (show (_ ≠ _ ∧ _ ≠ _ ∧ _ = some 1) by decide +kernel) ⟨Nat.le_of_ble_eq_true rfl, Nat.le_of_ble_eq_true rfl⟩ rfl (Nat.le_of_ble_eq_true rfl) dX3_move_8 ⟨Nat.le_of_ble_eq_true rfl, Nat.le_of_ble_eq_true rfl⟩ (fun v M1 H locs hq w => ?_)
    obtain ⟨rfl, hM1⟩ := hq
    rw [hM1] at w
    clear hM1 M1
    refine W.eq (g2 := F0 m 11 ls [.int (bI (inP b1 12))]) rfl ?_
    refine lv_if_ne (tgt := 17) hx hb dX3_move_11 (by decide) (fun c_11 => ?_) (fun c_11 => ?_)
    · skip
      have n_11 : (inP b1 12) = true := bI_t c_11
      obtain ⟨ta, hta, ea⟩ := inP_t (by decide) n_4
      obtain ⟨tb, htb, eb⟩ := inP_t (by decide) n_11
      have hm : sp_move S a1 p1 b1 q1 n1 = ((movd (kep S tb) ta p1 tb q1 n1).1, tell (movd (kep S tb) ta p1 tb q1 n1).2 (movd (kep S tb) ta p1 tb q1 n1).1) := by unfold sp_move; rw [if_neg (by simp [n_4, n_11]), ea, eb, cN_nI (by omega), cN_nI (by omega)]
      refine lv_aload_n hx hb dX3_move_17 rfl (lv_at hl 0 rfl) ?_
      refine lv_aload_n hx hb dX3_move_18 rfl (lv_at hl 0 rfl) ?_
      refine m_get C w hC.1.1 (index := 18) (T := TX3) (N := 7) rfl hi_X3 1 (by decide) (by decide +kernel) rfl dX3_move_19 ?_
      refine lv_iload_n hx hb dX3_move_22 rfl (lv_at hl 3 rfl) ?_
      refine m_topi (y := nI tb) eb ?_
      refine m_hald C w hC.1.2.2.1 tb rfl (by omega) (by omega) dX3_move_23 ?_
      refine m_callV C w hl.1 (As := [.ref (tr tb)]) (rest := []) (c_keep l D y S0 M F h0 A tr f g S hC c0 hI hR tb htb) gX3_move_X3_keep rfl hC.1.1 (T := TX3) (N := 7) rfl (show (_ = _ ∧ _ ≠ _ ∧ _ ≠ _ ∧ _ = some 1) by decide +kernel) ⟨Nat.le_of_ble_eq_true rfl, Nat.le_of_ble_eq_true rfl⟩ rfl (Nat.le_of_ble_eq_true rfl) dX3_move_24 ⟨Nat.le_of_ble_eq_true rfl, Nat.le_of_ble_eq_true rfl⟩ (fun v M1 H locs hq w => ?_)
      obtain ⟨rfl, f1, g1, hC1, hR1⟩ := hq
      have hI1 := inv_kep hI htb
      refine W.eq (g2 := F0 m 27 ls []) rfl ?_
      refine lv_aload_n hx hb dX3_move_27 rfl (lv_at hl 0 rfl) ?_
      refine lv_aload_n hx hb dX3_move_28 rfl (lv_at hl 0 rfl) ?_
      refine lv_aload_n hx hb dX3_move_29 rfl (lv_at hl 0 rfl) ?_
      refine m_get C w hC1.1.1 (index := 18) (T := TX3) (N := 7) rfl hi_X3 1 (by decide) (by decide +kernel) rfl dX3_move_30 ?_
      refine lv_iload_n hx hb dX3_move_33 rfl (lv_at hl 1 rfl) ?_
      refine m_topi (y := nI ta) ea ?_
      refine m_hald C w hC1.1.2.2.1 ta rfl (by omega) (by omega) dX3_move_34 ?_
      refine lv_iload_n hx hb dX3_move_35 rfl (lv_at hl 2 rfl) ?_
      refine lv_aload_n hx hb dX3_move_36 rfl (lv_at hl 0 rfl) ?_
      refine m_get C w hC1.1.1 (index := 18) (T := TX3) (N := 7) rfl hi_X3 1 (by decide) (by decide +kernel) rfl dX3_move_37 ?_
      refine lv_iload_n hx hb dX3_move_40 rfl (lv_at hl 3 rfl) ?_
      refine m_topi (y := nI tb) eb ?_
      refine m_hald C w hC1.1.2.2.1 tb rfl (by omega) (by omega) dX3_move_41 ?_
      refine lv_iload hx hb dX3_move_42 (lv_at hl 4 rfl) ?_
      refine lv_iload hx hb dX3_move_44 (lv_at hl 5 rfl) ?_
      refine m_callV C w hl.1 (As := [.ref (tr ta), .int p1, .ref (tr tb), .int q1, .int n1]) (rest := [.ref h0]) (c_carry l D y S0 M1 F h0 A tr f1 g1 (kep S tb) hC1 c0 hI1 hR1 ta tb hta htb p1 q1 n1 kep_ok) gX3_move_X3_carry rfl hC1.1.1 (T := TX3) (N := 7) rfl (show (_ = _ ∧ _ ≠ _ ∧ _ ≠ _ ∧ _ = some 5) by decide +kernel) ⟨Nat.le_of_ble_eq_true rfl, Nat.le_of_ble_eq_true rfl⟩ rfl (Nat.le_of_ble_eq_true rfl) dX3_move_46 ⟨Nat.le_of_ble_eq_true rfl, Nat.le_of_ble_eq_true rfl⟩ (fun v M1 H locs hq w => ?_)
      obtain ⟨rfl, f2, g2, hC2, hR2⟩ := hq
      refine W.eq (g2 := F0 m 49 ls [.int ((movd (kep S tb) ta p1 tb q1 n1).1), .ref h0]) rfl ?_
      refine m_callV C w hl.1 (As := [.int ((movd (kep S tb) ta p1 tb q1 n1).1)]) (rest := []) (c_counted l D y S0 M1 F h0 A tr f2 g2 (movd (kep S tb) ta p1 tb q1 n1).2 hC2 (movd (kep S tb) ta p1 tb q1 n1).1 (movd_ok hI1 hta htb)) gX3_move_X3_counted rfl hC2.1.1 (T := TX3) (N := 7) rfl (show (_ = _ ∧ _ ≠ _ ∧ _ ≠ _ ∧ _ = some 1) by decide +kernel) ⟨Nat.le_of_ble_eq_true rfl, Nat.le_of_ble_eq_true rfl⟩ rfl (Nat.le_of_ble_eq_true rfl) dX3_move_49 ⟨Nat.le_of_ble_eq_true rfl, Nat.le_of_ble_eq_true rfl⟩ (fun v M1 H locs hq w => ?_)
      obtain ⟨rfl, hC9⟩ := hq
      refine W.eq (g2 := F0 m 52 ls [.int ((movd (kep S tb) ta p1 tb q1 n1).1)]) rfl ?_
      exact m_iret C w dX3_move_52 (by omega) (by omega) (⟨by rw [hm], by rw [hm]; exact ⟨A, tr, f2, g2, hC9, hR2⟩⟩)
    · skip
      have n_11 : (inP b1 12) = false := bI_f c_11
      refine lv_bipush (v := (-6)) hx hb dX3_move_14 (by decide) ?_
      exact m_iret C w dX3_move_16 (by omega) (by omega) (⟨by rw [(show sp_move S a1 p1 b1 q1 n1 = (-6, S) by unfold sp_move; rw [if_pos (by first | simp [n_4, n_11] | simp [n_4])])], by rw [(show sp_move S a1 p1 b1 q1 n1 = (-6, S) by unfold sp_move; rw [if_pos (by first | simp [n_4, n_11] | simp [n_4])])]; exact ⟨A, tr, f, g, hC, hR⟩⟩)
set_option maxRecDepth 100000 in
set_option maxHeartbeats 4000000 in
theorem c_open (l : Launch) (D : va_G) (y : mY) (S0 : Nat) (M F : mp) (h0 : Nat) (A : Ad) (tr : Nat → Nat) (f : Nat → Nat → Int64) (g : Nat → Nat → Option Nat) (S : St) (hC : CW y h0 A tr f g S M) (c0 : Nat) (hI : Inv c0 S) (hR : CR A f g S) (t1 i1 n1 : Int32) : ct l yX3_open wsX3_open 4 94 0 0 D y S0 M F [.ref h0, .int t1, .int i1, .int n1] (fun v M' => v = some (.int (sp_open S t1 i1 n1).1) ∧ RC y h0 (sp_open S t1 i1 n1).2 M') := by
  refine ct_of cX3_open 4 (some .int) [(0, .ref h0), (1, .int t1), (2, .int i1), (3, .int n1)] (by decide +kernel) rfl (Nat.le_of_ble_eq_true rfl) rfl ?_
  intro p e s m below meth c ls C hnm hl w
  have hx := C.1
  have hb := C.2.1
  have hi_X0 : ∀ w ∈ u_ws RX0 TX0 5, w ∈ wsX3_open := by decide +kernel
  have hi_X3 : ∀ w ∈ u_ws RX3 TX3 7, w ∈ wsX3_open := by decide +kernel
  refine lv_iload_n hx hb dX3_open_0 rfl (lv_at hl 1 rfl) ?_
  refine m_callS C w hl.1 (As := [.int t1]) (rest := []) (c_isTray l D y S0 M F t1) ggX3_open_X3_isTray rfl (by decide +kernel) (by decide +kernel) (by decide +kernel) (show (_ ≠ _ ∧ _ ≠ _ ∧ _ = some 1) by decide +kernel) ⟨Nat.le_of_ble_eq_true rfl, Nat.le_of_ble_eq_true rfl⟩ rfl (Nat.le_of_ble_eq_true rfl) dX3_open_1 ⟨Nat.le_of_ble_eq_true rfl, Nat.le_of_ble_eq_true rfl⟩ (fun v M1 H locs hq w => ?_)
  obtain ⟨rfl, hM1⟩ := hq
  rw [hM1] at w
  clear hM1 M1
  refine W.eq (g2 := F0 m 4 ls [.int (bI (inP t1 12))]) rfl ?_
  refine lv_if_ne (tgt := 10) hx hb dX3_open_4 (by decide) (fun c_4 => ?_) (fun c_4 => ?_)
  · skip
    have n_4 : (inP t1 12) = true := bI_t c_4
    obtain ⟨t, ht, et⟩ := inP_t (by decide) n_4
    obtain ⟨tk, na, ta, hq0, -, -⟩ := hC.1.tray hI ht
    have hm : sp_open S t1 i1 n1 = sp_move S (nI t) i1 (nI t) (i1 + n1) (nI (zT S t) - i1 - n1) := by unfold sp_open; rw [if_neg (by simp [n_4]), et, cN_nI (by omega)]
    refine lv_aload_n hx hb dX3_open_10 rfl (lv_at hl 0 rfl) ?_
    refine lv_iload_n hx hb dX3_open_11 rfl (lv_at hl 1 rfl) ?_
    refine m_topi (y := nI t) et ?_
    refine lv_iload_n hx hb dX3_open_12 rfl (lv_at hl 2 rfl) ?_
    refine lv_iload_n hx hb dX3_open_13 rfl (lv_at hl 1 rfl) ?_
    refine m_topi (y := nI t) et ?_
    refine lv_iload_n hx hb dX3_open_14 rfl (lv_at hl 2 rfl) ?_
    refine lv_iload_n hx hb dX3_open_15 rfl (lv_at hl 3 rfl) ?_
    refine lv_iadd hx hb dX3_open_16 ?_
    refine lv_aload_n hx hb dX3_open_17 rfl (lv_at hl 0 rfl) ?_
    refine m_get C w hC.1.1 (index := 18) (T := TX3) (N := 7) rfl hi_X3 1 (by decide) (by decide +kernel) rfl dX3_open_18 ?_
    refine lv_iload_n hx hb dX3_open_21 rfl (lv_at hl 1 rfl) ?_
    refine m_topi (y := nI t) et ?_
    refine m_hald C w hC.1.2.2.1 t rfl (by omega) (by omega) dX3_open_22 ?_
    refine m_getN C w hq0 (index := 89) (host := "BeadBench") (T := TX0) (N := 5) rfl hi_X0 1 (by decide) (by decide +kernel) rfl dX3_open_23 ?_
    refine lv_iload_n hx hb dX3_open_26 rfl (lv_at hl 2 rfl) ?_
    refine lv_isub hx hb dX3_open_27 ?_
    refine lv_iload_n hx hb dX3_open_28 rfl (lv_at hl 3 rfl) ?_
    refine lv_isub hx hb dX3_open_29 ?_
    refine m_callV C w hl.1 (As := [.int (nI t), .int i1, .int (nI t), .int (i1 + n1), .int (((nI (zT S t)) - i1) - n1)]) (rest := []) (c_move l D y S0 M F h0 A tr f g S hC c0 hI hR (nI t) i1 (nI t) (i1 + n1) (nI (zT S t) - i1 - n1)) gX3_open_X3_move rfl hC.1.1 (T := TX3) (N := 7) rfl (show (_ = _ ∧ _ ≠ _ ∧ _ ≠ _ ∧ _ = some 5) by decide +kernel) ⟨Nat.le_of_ble_eq_true rfl, Nat.le_of_ble_eq_true rfl⟩ rfl (Nat.le_of_ble_eq_true rfl) dX3_open_30 ⟨Nat.le_of_ble_eq_true rfl, Nat.le_of_ble_eq_true rfl⟩ (fun v M1 H locs hq w => ?_)
    obtain ⟨rfl, hRC⟩ := hq
    refine W.eq (g2 := F0 m 33 ls [.int ((sp_move S (nI t) i1 (nI t) (i1 + n1) (nI (zT S t) - i1 - n1)).1)]) rfl ?_
    exact m_iret C w dX3_open_33 (by omega) (by omega) (⟨by rw [hm], by rw [hm]; exact hRC⟩)
  · skip
    have n_4 : (inP t1 12) = false := bI_f c_4
    refine lv_bipush (v := (-6)) hx hb dX3_open_7 (by decide) ?_
    exact m_iret C w dX3_open_9 (by omega) (by omega) (⟨by rw [(show sp_open S t1 i1 n1 = (-6, S) by unfold sp_open; rw [if_pos (by first | simp [n_4])])], by rw [(show sp_open S t1 i1 n1 = (-6, S) by unfold sp_open; rw [if_pos (by first | simp [n_4])])]; exact ⟨A, tr, f, g, hC, hR⟩⟩)
set_option maxRecDepth 100000 in
set_option maxHeartbeats 4000000 in
theorem c_close (l : Launch) (D : va_G) (y : mY) (S0 : Nat) (M F : mp) (h0 : Nat) (A : Ad) (tr : Nat → Nat) (f : Nat → Nat → Int64) (g : Nat → Nat → Option Nat) (S : St) (hC : CW y h0 A tr f g S M) (c0 : Nat) (hI : Inv c0 S) (hR : CR A f g S) (t1 i1 n1 : Int32) : ct l yX3_close wsX3_close 4 94 0 0 D y S0 M F [.ref h0, .int t1, .int i1, .int n1] (fun v M' => v = some (.int (sp_close S t1 i1 n1).1) ∧ RC y h0 (sp_close S t1 i1 n1).2 M') := by
  refine ct_of cX3_close 4 (some .int) [(0, .ref h0), (1, .int t1), (2, .int i1), (3, .int n1)] (by decide +kernel) rfl (Nat.le_of_ble_eq_true rfl) rfl ?_
  intro p e s m below meth c ls C hnm hl w
  have hx := C.1
  have hb := C.2.1
  have hi_X0 : ∀ w ∈ u_ws RX0 TX0 5, w ∈ wsX3_close := by decide +kernel
  have hi_X3 : ∀ w ∈ u_ws RX3 TX3 7, w ∈ wsX3_close := by decide +kernel
  refine lv_iload_n hx hb dX3_close_0 rfl (lv_at hl 1 rfl) ?_
  refine m_callS C w hl.1 (As := [.int t1]) (rest := []) (c_isTray l D y S0 M F t1) ggX3_close_X3_isTray rfl (by decide +kernel) (by decide +kernel) (by decide +kernel) (show (_ ≠ _ ∧ _ ≠ _ ∧ _ = some 1) by decide +kernel) ⟨Nat.le_of_ble_eq_true rfl, Nat.le_of_ble_eq_true rfl⟩ rfl (Nat.le_of_ble_eq_true rfl) dX3_close_1 ⟨Nat.le_of_ble_eq_true rfl, Nat.le_of_ble_eq_true rfl⟩ (fun v M1 H locs hq w => ?_)
  obtain ⟨rfl, hM1⟩ := hq
  rw [hM1] at w
  clear hM1 M1
  refine W.eq (g2 := F0 m 4 ls [.int (bI (inP t1 12))]) rfl ?_
  refine lv_if_ne (tgt := 10) hx hb dX3_close_4 (by decide) (fun c_4 => ?_) (fun c_4 => ?_)
  · skip
    have n_4 : (inP t1 12) = true := bI_t c_4
    obtain ⟨t, ht, et⟩ := inP_t (by decide) n_4
    obtain ⟨tk, na, ta, hq0, -, -⟩ := hC.1.tray hI ht
    have hm : sp_close S t1 i1 n1 = sp_move S (nI t) (i1 + n1) (nI t) i1 (nI (zT S t) - i1 - n1) := by unfold sp_close; rw [if_neg (by simp [n_4]), et, cN_nI (by omega)]
    refine lv_aload_n hx hb dX3_close_10 rfl (lv_at hl 0 rfl) ?_
    refine lv_iload_n hx hb dX3_close_11 rfl (lv_at hl 1 rfl) ?_
    refine m_topi (y := nI t) et ?_
    refine lv_iload_n hx hb dX3_close_12 rfl (lv_at hl 2 rfl) ?_
    refine lv_iload_n hx hb dX3_close_13 rfl (lv_at hl 3 rfl) ?_
    refine lv_iadd hx hb dX3_close_14 ?_
    refine lv_iload_n hx hb dX3_close_15 rfl (lv_at hl 1 rfl) ?_
    refine m_topi (y := nI t) et ?_
    refine lv_iload_n hx hb dX3_close_16 rfl (lv_at hl 2 rfl) ?_
    refine lv_aload_n hx hb dX3_close_17 rfl (lv_at hl 0 rfl) ?_
    refine m_get C w hC.1.1 (index := 18) (T := TX3) (N := 7) rfl hi_X3 1 (by decide) (by decide +kernel) rfl dX3_close_18 ?_
    refine lv_iload_n hx hb dX3_close_21 rfl (lv_at hl 1 rfl) ?_
    refine m_topi (y := nI t) et ?_
    refine m_hald C w hC.1.2.2.1 t rfl (by omega) (by omega) dX3_close_22 ?_
    refine m_getN C w hq0 (index := 89) (host := "BeadBench") (T := TX0) (N := 5) rfl hi_X0 1 (by decide) (by decide +kernel) rfl dX3_close_23 ?_
    refine lv_iload_n hx hb dX3_close_26 rfl (lv_at hl 2 rfl) ?_
    refine lv_isub hx hb dX3_close_27 ?_
    refine lv_iload_n hx hb dX3_close_28 rfl (lv_at hl 3 rfl) ?_
    refine lv_isub hx hb dX3_close_29 ?_
    refine m_callV C w hl.1 (As := [.int (nI t), .int (i1 + n1), .int (nI t), .int i1, .int (((nI (zT S t)) - i1) - n1)]) (rest := []) (c_move l D y S0 M F h0 A tr f g S hC c0 hI hR (nI t) (i1 + n1) (nI t) i1 (nI (zT S t) - i1 - n1)) gX3_close_X3_move rfl hC.1.1 (T := TX3) (N := 7) rfl (show (_ = _ ∧ _ ≠ _ ∧ _ ≠ _ ∧ _ = some 5) by decide +kernel) ⟨Nat.le_of_ble_eq_true rfl, Nat.le_of_ble_eq_true rfl⟩ rfl (Nat.le_of_ble_eq_true rfl) dX3_close_30 ⟨Nat.le_of_ble_eq_true rfl, Nat.le_of_ble_eq_true rfl⟩ (fun v M1 H locs hq w => ?_)
    obtain ⟨rfl, hRC⟩ := hq
    refine W.eq (g2 := F0 m 33 ls [.int ((sp_move S (nI t) (i1 + n1) (nI t) i1 (nI (zT S t) - i1 - n1)).1)]) rfl ?_
    exact m_iret C w dX3_close_33 (by omega) (by omega) (⟨by rw [hm], by rw [hm]; exact hRC⟩)
  · skip
    have n_4 : (inP t1 12) = false := bI_f c_4
    refine lv_bipush (v := (-6)) hx hb dX3_close_7 (by decide) ?_
    exact m_iret C w dX3_close_9 (by omega) (by omega) (⟨by rw [(show sp_close S t1 i1 n1 = (-6, S) by unfold sp_close; rw [if_pos (by first | simp [n_4])])], by rw [(show sp_close S t1 i1 n1 = (-6, S) by unfold sp_close; rw [if_pos (by first | simp [n_4])])]; exact ⟨A, tr, f, g, hC, hR⟩⟩)
set_option maxRecDepth 100000 in
set_option maxHeartbeats 4000000 in
theorem c_turn (l : Launch) (D : va_G) (y : mY) (S0 : Nat) (M F : mp) (h0 : Nat) (A : Ad) (tr : Nat → Nat) (f : Nat → Nat → Int64) (g : Nat → Nat → Option Nat) (S : St) (hC : CW y h0 A tr f g S M) (c0 : Nat) (hI : Inv c0 S) (hR : CR A f g S) (t1 k1 : Int32) : ct l yX3_turn wsX3_turn 2 45 0 0 D y S0 M F [.ref h0, .int t1, .int k1] (fun v M' => v = some (.int (sp_turn S t1 k1).1) ∧ RC y h0 (sp_turn S t1 k1).2 M') := by
  refine ct_of cX3_turn 8 (some .int) [(0, .ref h0), (1, .int t1), (2, .int k1)] (by decide +kernel) rfl (Nat.le_of_ble_eq_true rfl) rfl ?_
  intro p e s m below meth c ls C hnm hl w
  have hx := C.1
  have hb := C.2.1
  have hi_X0 : ∀ w ∈ u_ws RX0 TX0 5, w ∈ wsX3_turn := by decide +kernel
  have hi_X3 : ∀ w ∈ u_ws RX3 TX3 7, w ∈ wsX3_turn := by decide +kernel
  refine lv_iload_n hx hb dX3_turn_0 rfl (lv_at hl 1 rfl) ?_
  refine m_callS C w hl.1 (As := [.int t1]) (rest := []) (c_isTray l D y S0 M F t1) ggX3_turn_X3_isTray rfl (by decide +kernel) (by decide +kernel) (by decide +kernel) (show (_ ≠ _ ∧ _ ≠ _ ∧ _ = some 1) by decide +kernel) ⟨Nat.le_of_ble_eq_true rfl, Nat.le_of_ble_eq_true rfl⟩ rfl (Nat.le_of_ble_eq_true rfl) dX3_turn_1 ⟨Nat.le_of_ble_eq_true rfl, Nat.le_of_ble_eq_true rfl⟩ (fun v M1 H locs hq w => ?_)
  obtain ⟨rfl, hM1⟩ := hq
  rw [hM1] at w
  clear hM1 M1
  refine W.eq (g2 := F0 m 4 ls [.int (bI (inP t1 12))]) rfl ?_
  refine lv_if_ne (tgt := 10) hx hb dX3_turn_4 (by decide) (fun c_4 => ?_) (fun c_4 => ?_)
  · skip
    have n_4 : (inP t1 12) = true := bI_t c_4
    obtain ⟨t, ht, et⟩ := inP_t (by decide) n_4
    have hm0 : sp_turn S t1 k1 = turn1 S t k1 := by unfold sp_turn; rw [if_neg (by simp [n_4]), et, cN_nI (by omega)]
    refine lv_aload_n hx hb dX3_turn_10 rfl (lv_at hl 0 rfl) ?_
    refine m_get C w hC.1.1 (index := 18) (T := TX3) (N := 7) rfl hi_X3 1 (by decide) (by decide +kernel) rfl dX3_turn_11 ?_
    refine lv_iload_n hx hb dX3_turn_14 rfl (lv_at hl 1 rfl) ?_
    refine m_topi (y := nI t) et ?_
    refine m_hald C w hC.1.2.2.1 t rfl (by omega) (by omega) dX3_turn_15 ?_
    refine lv_astore_n (lv' := [(3, .ref (tr t)), (0, .ref h0), (1, .int t1), (2, .int k1)]) hx hb dX3_turn_16 rfl hl (by decide) rfl (fun ls hl => ?_)
    refine lv_aload_n hx hb dX3_turn_17 rfl (lv_at hl 1 rfl) ?_
    refine lv_aload_n hx hb dX3_turn_18 rfl (lv_at hl 0 rfl) ?_
    refine m_callV C w hl.1 (As := [.ref (tr t)]) (rest := []) (c_keep l D y S0 M F h0 A tr f g S hC c0 hI hR t ht) gX3_turn_X3_keep rfl hC.1.1 (T := TX3) (N := 7) rfl (show (_ = _ ∧ _ ≠ _ ∧ _ ≠ _ ∧ _ = some 1) by decide +kernel) ⟨Nat.le_of_ble_eq_true rfl, Nat.le_of_ble_eq_true rfl⟩ rfl (Nat.le_of_ble_eq_true rfl) dX3_turn_19 ⟨Nat.le_of_ble_eq_true rfl, Nat.le_of_ble_eq_true rfl⟩ (fun v M1 H locs hq w => ?_)
    obtain ⟨rfl, f1, g1, hC1, hR1⟩ := hq
    have hI1 := inv_kep hI ht
    refine W.eq (g2 := F0 m 22 ls []) rfl ?_
    have hz := zT_le hI ht
    have hk : sH S t < 14 := by have := (hI.2.2.2.2.2.2.1 t ht).1; omega
    by_cases h2 : 2 ≤ sH S t
    · skip
      rw [kep_row h2] at hC1 hR1 hI1
      obtain ⟨tk, na, ta, hq1, -, hrow⟩ := hC1.1.tray hI1 ht
      have hq1 : M1 (tr t) = some (eO 0 (hF (sH S t) (zT S t) tk na ta)) := hq1
      obtain ⟨hr, -, ekd, etr, -, -⟩ := hrow h2
      have hr : rowT S t < sN S := hr
      have ekd : sK S (rowT S t) = sH S t := ekd
      have etr : tr t = xr A (rowT S t) := etr
      have hzT : zT S t = sZ S (rowT S t) := by unfold zT; rw [if_pos h2]
      refine lv_aload_n hx hb dX3_turn_22 rfl (lv_at hl 0 rfl) ?_
      refine m_callV C w hl.1 (As := []) (rest := []) (c_Hold_refusal l D y S0 M1 F (tr t) (sH S t) (zT S t) tk na ta hq1 hk hz) gX3_turn_X0_refusal rfl hq1 (T := TX0) (N := 5) rfl (show (_ = _ ∧ _ ≠ _ ∧ _ ≠ _ ∧ _ = some 0) by decide +kernel) ⟨Nat.le_of_ble_eq_true rfl, Nat.le_of_ble_eq_true rfl⟩ rfl (Nat.le_of_ble_eq_true rfl) dX3_turn_23 ⟨Nat.le_of_ble_eq_true rfl, Nat.le_of_ble_eq_true rfl⟩ (fun v M1 H locs hq w => ?_)
      obtain ⟨rfl, hM1⟩ := hq
      rw [hM1] at w
      clear hM1 M1
      refine W.eq (g2 := F0 m 26 ls [.int (fR (sH S t))]) rfl ?_
      refine lv_istore (lv' := [(4, .int (fR (sH S t))), (3, .ref (tr t)), (0, .ref h0), (1, .int t1), (2, .int k1)]) hx hb dX3_turn_26 hl (by decide) rfl (fun ls hl => ?_)
      refine lv_iload hx hb dX3_turn_28 (lv_at hl 0 rfl) ?_
      refine lv_if_eq (tgt := 40) hx hb dX3_turn_30 (by decide) (fun c_30 => ?_) (fun c_30 => ?_)
      · skip
        refine lv_aload_n hx hb dX3_turn_40 rfl (lv_at hl 1 rfl) ?_
        refine m_getN C w hq1 (index := 89) (host := "BeadBench") (T := TX0) (N := 5) rfl hi_X0 1 (by decide) (by decide +kernel) rfl dX3_turn_41 ?_
        refine lv_istore (lv' := [(5, .int (nI (zT S t))), (4, .int (fR (sH S t))), (3, .ref (tr t)), (0, .ref h0), (1, .int t1), (2, .int k1)]) hx hb dX3_turn_44 hl (by decide) rfl (fun ls hl => ?_)
        refine lv_iload hx hb dX3_turn_46 (lv_at hl 0 rfl) ?_
        refine lv_if_le (tgt := 60) hx hb dX3_turn_48 (by decide) (fun c_48 => ?_) (fun c_48 => ?_)
        · skip
          have n_48 : (zT S t) ≤ 0 := (nI_leI (by omega) (by omega)).mp c_48
          refine lv_iconst (v := 0) hx hb dX3_turn_60 (by decide) ?_
          refine lv_istore (lv' := [(6, .int 0), (5, .int (nI (zT S t))), (4, .int (fR (sH S t))), (3, .ref (tr t)), (0, .ref h0), (1, .int t1), (2, .int k1)]) hx hb dX3_turn_61 hl (by decide) rfl (fun ls hl => ?_)
          refine lv_iconst (v := 0) hx hb dX3_turn_63 (by decide) ?_
          refine lv_istore (lv' := [(7, .int 0), (6, .int 0), (5, .int (nI (zT S t))), (4, .int (fR (sH S t))), (3, .ref (tr t)), (0, .ref h0), (1, .int t1), (2, .int k1)]) hx hb dX3_turn_64 hl (by decide) rfl (fun ls hl => ?_)
          have lp : ∀ (kf : Nat) (i : Nat) (f2 : Nat → Nat → Int64) (g2 : Nat → Nat → Option Nat) (M2 : mp), (i ≤ zT S t) → (CW y h0 A tr f2 g2 (wBf S (some (rowT S t)) (sC S (rowT S t))) M2) → (∀ j, j ≠ rowT S t + 1 → f2 j = f1 j ∧ g2 j = g1 j) → (∀ x, x < i → f2 (rowT S t + 1) x = f1 0 ((0 + x) % zT S t) ∧ g2 (rowT S t + 1) x = g1 0 ((0 + x) % zT S t)) →  ∀ (H : Heap) (locs : List Loc) (ls : Array Slot), zT S t - i = kf → mS D S0 M2 F s H locs → lv_has ls 8 [(7, .int (nI i)), (6, .int 0), (5, .int (nI (zT S t))), (3, .ref (tr t)), (0, .ref h0)] → W p l e { frames := 2, cells := 0, slots := 0, locals := 45 } s m ([.ref h0, .int t1, .int k1] : List Value).toArray below meth c H locs 0 0 (MQ below (mQ D S0 F (fun v M' => v = some (.int (sp_turn S t1 k1).1) ∧ RC y h0 (sp_turn S t1 k1).2 M')) ([.ref h0, .int t1, .int k1] : List Value).toArray s 0 0 (fun q => S0 ≤ q)) (F0 m 66 ls []) := by
            clear w hl
            intro kf
            induction kf using Nat.strongRecOn with
            | _ kf ih_lp =>
              intro i f2 g2 M2 hi hC2 hf hd H locs ls hkf w hl
              have hq2 : M2 (tr t) = some (eO 0 (hF (sH S t) (zT S t) 0 (xn A (rowT S t + 1)) (xt A (rowT S t + 1)))) := by rw [etr, hzT, ← ekd]; exact hC2.1.2.2.2.2.2.1 (rowT S t) hr
              have hn2 : M2 (xn A (rowT S t + 1)) = some (eL y (zT S t) (f2 (rowT S t + 1))) := by rw [hzT]; exact hC2.2.1.1 (rowT S t + 1) hr
              have ht2 : M2 (xt A (rowT S t + 1)) = some (eT y (zT S t) (g2 (rowT S t + 1))) := by rw [hzT]; exact hC2.2.1.2.1 (rowT S t + 1) hr
              refine lv_iload hx hb dX3_turn_66 (lv_at hl 0 rfl) ?_
              refine lv_iload hx hb dX3_turn_68 (lv_at hl 2 rfl) ?_
              refine lv_icmp_ge (tgt := 97) hx hb dX3_turn_70 (by decide) (fun c_70 => ?_) (fun c_70 => ?_)
              · skip
                have n_70 : (zT S t) ≤ i := (nI_leI (by omega) (by omega)).mp c_70
                refine lv_aload_n hx hb dX3_turn_97 rfl (lv_at hl 4 rfl) ?_
                refine lv_iload hx hb dX3_turn_98 (lv_at hl 2 rfl) ?_
                refine m_callV C w hl.1 (As := [.int (nI (zT S t))]) (rest := []) (c_counted l D y S0 M2 F h0 A tr f2 g2 (wRC (wBf S (some (rowT S t)) (sC S (rowT S t))) (va_up (sC S) (rowT S t) (fun i => sC S (rowT S t) (tiK k1 (zT S t) i)))) (hC2.rc _) (nI (zT S t)) (nI_ok (by omega))) gX3_turn_X3_counted rfl hC2.1.1 (T := TX3) (N := 7) rfl (show (_ = _ ∧ _ ≠ _ ∧ _ ≠ _ ∧ _ = some 1) by decide +kernel) ⟨Nat.le_of_ble_eq_true rfl, Nat.le_of_ble_eq_true rfl⟩ rfl (Nat.le_of_ble_eq_true rfl) dX3_turn_100 ⟨Nat.le_of_ble_eq_true rfl, Nat.le_of_ble_eq_true rfl⟩ (fun v M1 H locs hq w => ?_)
                obtain ⟨rfl, hC9⟩ := hq
                refine W.eq (g2 := F0 m 103 ls [.int (nI (zT S t))]) rfl ?_
                exact m_iret C w dX3_turn_103 (by omega) (by omega) (⟨by rw [hm0]; unfold turn1; rw [if_neg (by omega)], by
                  rw [hm0]
                  unfold turn1
                  rw [if_neg (by omega), kep_row h2]
                  exact ⟨A, tr, f2, g2, hC9, ⟨fun r x hr2 hx => by
                    have hx : x < sZ S r := hx
                    show f2 (r + 1) x = nu (sK S r) ((va_up (sC S) (rowT S t) (fun i => sC S (rowT S t) (tiK k1 (zT S t) i))) r x) ∧ g2 (r + 1) x = th A (sK S r) ((va_up (sC S) (rowT S t) (fun i => sC S (rowT S t) (tiK k1 (zT S t) i))) r x)
                    by_cases e : r = rowT S t
                    · subst e
                      rw [show (va_up (sC S) (rowT S t) (fun i => sC S (rowT S t) (tiK k1 (zT S t) i))) (rowT S t) x = sC S (rowT S t) (tiK k1 (zT S t) x) by simp [va_up]]
                      exact absurd hx (by omega)
                    · rw [show (va_up (sC S) (rowT S t) (fun i => sC S (rowT S t) (tiK k1 (zT S t) i))) r = sC S r by simp [va_up, e], (hf _ (fun h => e (Nat.succ.inj h))).1, (hf _ (fun h => e (Nat.succ.inj h))).2]
                      exact hR1.1 r x hr2 hx, fun r x hr2 hx => by
                    rw [(hf 0 (Ne.symm (Nat.succ_ne_zero _))).1, (hf 0 (Ne.symm (Nat.succ_ne_zero _))).2]
                    exact hR1.2 r x hr2 hx⟩⟩⟩)
              · skip
                have n_70 : ¬ (zT S t) ≤ i := fun h => absurd ((nI_leI (by omega) (by omega)).mpr h) c_70
                refine lv_aload_n hx hb dX3_turn_73 rfl (lv_at hl 3 rfl) ?_
                refine lv_iload hx hb dX3_turn_74 (lv_at hl 0 rfl) ?_
                refine lv_aload_n hx hb dX3_turn_76 rfl (lv_at hl 4 rfl) ?_
                refine m_get C w hC2.1.1 (index := 22) (T := TX3) (N := 7) rfl hi_X3 2 (by decide) (by decide +kernel) rfl dX3_turn_77 ?_
                refine lv_iload hx hb dX3_turn_80 (lv_at hl 1 rfl) ?_
                refine lv_iload hx hb dX3_turn_82 (lv_at hl 0 rfl) ?_
                refine lv_iadd hx hb dX3_turn_84 ?_
                refine m_topi (y := nI (0 + i)) (by first | exact nI_add _ _ | exact nI_1 _) ?_
                refine lv_iload hx hb dX3_turn_85 (lv_at hl 2 rfl) ?_
                refine lv_irem hx hb dX3_turn_87 (nI_ne0 (by omega) (by omega)) ?_
                refine m_topi (y := nI ((0 + i) % zT S t)) (pk_rem (by omega) (by omega) (by omega)) ?_
                have hml := Nat.mod_lt (0 + i) (show 0 < zT S t by omega)
                refine m_callV C w hl.1 (As := [.int (nI i), .ref (xB A), .int (nI ((0 + i) % zT S t))]) (rest := []) (c_Hold_copy l D y S0 M2 F (tr t) (sH S t) (zT S t) 0 (xn A (rowT S t + 1)) (xt A (rowT S t + 1)) hq2 (xB A) 0 64 0 (xn A 0) (xt A 0) hC2.1.2.2.2.1 (f2 (rowT S t + 1)) (f2 0) (g2 (rowT S t + 1)) (g2 0) hn2 ht2 (hC2.2.1.1 0 (Nat.zero_le _)) (hC2.2.1.2.1 0 (Nat.zero_le _)) i ((0 + i) % zT S t) (by omega) (by omega) (by omega) (by omega) (fun z hz => hC2.1.th (hC2.2.1.2.2 0 ((0 + i) % zT S t) z (Nat.zero_le _) (by rw [zz_0]; omega) hz))) gX3_turn_X0_copyPlace rfl hq2 (T := TX0) (N := 5) rfl (show (_ = _ ∧ _ ≠ _ ∧ _ ≠ _ ∧ _ = some 3) by decide +kernel) ⟨Nat.le_of_ble_eq_true rfl, Nat.le_of_ble_eq_true rfl⟩ rfl (Nat.le_of_ble_eq_true rfl) dX3_turn_88 ⟨Nat.le_of_ble_eq_true rfl, Nat.le_of_ble_eq_true rfl⟩ (fun v M1 H locs hq w => ?_)
                obtain ⟨rfl, hM1⟩ := hq
                have hC3 := hC2.copy (a := rowT S t + 1) (b := 0) (i := i) (j := (0 + i) % zT S t) hr (Nat.zero_le _) (by rw [zz_s]; show i < sZ S (rowT S t); omega) (by rw [zz_0]; omega)
                rw [show zz (wBf S (some (rowT S t)) (sC S (rowT S t))) (rowT S t + 1) = zT S t from (zz_s _ _).trans hzT.symm, ← hM1] at hC3
                refine W.eq (g2 := F0 m 91 ls []) rfl ?_
                refine lv_iinc (v := nI (i + 1)) (lv' := [(7, .int (nI (i + 1))), (6, .int 0), (5, .int (nI (zT S t))), (3, .ref (tr t)), (0, .ref h0)]) hx hb dX3_turn_91 hl (k := 0) rfl (by first | exact nI_1 _ | exact nI_add _ _ | rfl) (by decide) rfl (fun ls hl => ?_)
                refine lv_goto (tgt := 66) hx hb dX3_turn_94 (by decide) ?_
                exact ih_lp (zT S t - (i + 1)) (by omega) (i + 1) _ _ M1 (by omega) hC3 (fun j hj => ⟨(up2_r hj).trans (hf j hj).1, (up2_r hj).trans (hf j hj).2⟩) (fun x hx => by
                    by_cases e : x = i
                    · rw [e, up2_s, up2_s, (hf 0 (Ne.symm (Nat.succ_ne_zero _))).1, (hf 0 (Ne.symm (Nat.succ_ne_zero _))).2]; exact ⟨rfl, rfl⟩
                    · rw [up2_o (Or.inr e), up2_o (Or.inr e)]; exact hd x (by omega)) _ _ ls rfl w (lv_sub hl [0, 1, 2, 3, 4] rfl)
          exact lp _ 0 f1 g1 M1 (by omega) hC1 (fun _ _ => ⟨rfl, rfl⟩) (fun x hx => by omega) _ _ ls rfl w (lv_sub hl [0, 1, 2, 4, 5] rfl)
        · skip
          have n_48 : ¬ (zT S t) ≤ 0 := fun h => absurd ((nI_leI (by omega) (by omega)).mpr h) c_48
          refine lv_iload_n hx hb dX3_turn_51 rfl (lv_at hl 5 rfl) ?_
          refine lv_iload hx hb dX3_turn_52 (lv_at hl 0 rfl) ?_
          have hfm := fmd_lt k1 (show 0 < zT S t by omega)
          refine m_callS C w hl.1 (As := [.int k1, .int (nI (zT S t))]) (rest := []) (c_floorMod l D y S0 M1 F k1 (zT S t) (by omega) (by omega)) ggX3_turn_J9_floorMod_7cf53 rfl (by decide +kernel) (by decide +kernel) (by decide +kernel) (show (_ ≠ _ ∧ _ ≠ _ ∧ _ = some 2) by decide +kernel) ⟨Nat.le_of_ble_eq_true rfl, Nat.le_of_ble_eq_true rfl⟩ rfl (Nat.le_of_ble_eq_true rfl) dX3_turn_54 ⟨Nat.le_of_ble_eq_true rfl, Nat.le_of_ble_eq_true rfl⟩ (fun v M1 H locs hq w => ?_)
          obtain ⟨rfl, hM1⟩ := hq
          rw [hM1] at w
          clear hM1 M1
          refine W.eq (g2 := F0 m 57 ls [.int (nI (fmd k1 (zT S t)))]) rfl ?_
          refine lv_goto (tgt := 61) hx hb dX3_turn_57 (by decide) ?_
          refine lv_istore (lv' := [(6, .int (nI (fmd k1 (zT S t)))), (5, .int (nI (zT S t))), (4, .int (fR (sH S t))), (3, .ref (tr t)), (0, .ref h0), (1, .int t1), (2, .int k1)]) hx hb dX3_turn_61 hl (by decide) rfl (fun ls hl => ?_)
          refine lv_iconst (v := 0) hx hb dX3_turn_63 (by decide) ?_
          refine lv_istore (lv' := [(7, .int 0), (6, .int (nI (fmd k1 (zT S t)))), (5, .int (nI (zT S t))), (4, .int (fR (sH S t))), (3, .ref (tr t)), (0, .ref h0), (1, .int t1), (2, .int k1)]) hx hb dX3_turn_64 hl (by decide) rfl (fun ls hl => ?_)
          have lp : ∀ (kf : Nat) (i : Nat) (f2 : Nat → Nat → Int64) (g2 : Nat → Nat → Option Nat) (M2 : mp), (i ≤ zT S t) → (CW y h0 A tr f2 g2 (wBf S (some (rowT S t)) (sC S (rowT S t))) M2) → (∀ j, j ≠ rowT S t + 1 → f2 j = f1 j ∧ g2 j = g1 j) → (∀ x, x < i → f2 (rowT S t + 1) x = f1 0 (((fmd k1 (zT S t)) + x) % zT S t) ∧ g2 (rowT S t + 1) x = g1 0 (((fmd k1 (zT S t)) + x) % zT S t)) →  ∀ (H : Heap) (locs : List Loc) (ls : Array Slot), zT S t - i = kf → mS D S0 M2 F s H locs → lv_has ls 8 [(7, .int (nI i)), (6, .int (nI (fmd k1 (zT S t)))), (5, .int (nI (zT S t))), (3, .ref (tr t)), (0, .ref h0)] → W p l e { frames := 2, cells := 0, slots := 0, locals := 45 } s m ([.ref h0, .int t1, .int k1] : List Value).toArray below meth c H locs 0 0 (MQ below (mQ D S0 F (fun v M' => v = some (.int (sp_turn S t1 k1).1) ∧ RC y h0 (sp_turn S t1 k1).2 M')) ([.ref h0, .int t1, .int k1] : List Value).toArray s 0 0 (fun q => S0 ≤ q)) (F0 m 66 ls []) := by
            clear w hl
            intro kf
            induction kf using Nat.strongRecOn with
            | _ kf ih_lp =>
              intro i f2 g2 M2 hi hC2 hf hd H locs ls hkf w hl
              have hq2 : M2 (tr t) = some (eO 0 (hF (sH S t) (zT S t) 0 (xn A (rowT S t + 1)) (xt A (rowT S t + 1)))) := by rw [etr, hzT, ← ekd]; exact hC2.1.2.2.2.2.2.1 (rowT S t) hr
              have hn2 : M2 (xn A (rowT S t + 1)) = some (eL y (zT S t) (f2 (rowT S t + 1))) := by rw [hzT]; exact hC2.2.1.1 (rowT S t + 1) hr
              have ht2 : M2 (xt A (rowT S t + 1)) = some (eT y (zT S t) (g2 (rowT S t + 1))) := by rw [hzT]; exact hC2.2.1.2.1 (rowT S t + 1) hr
              refine lv_iload hx hb dX3_turn_66 (lv_at hl 0 rfl) ?_
              refine lv_iload hx hb dX3_turn_68 (lv_at hl 2 rfl) ?_
              refine lv_icmp_ge (tgt := 97) hx hb dX3_turn_70 (by decide) (fun c_70 => ?_) (fun c_70 => ?_)
              · skip
                have n_70 : (zT S t) ≤ i := (nI_leI (by omega) (by omega)).mp c_70
                refine lv_aload_n hx hb dX3_turn_97 rfl (lv_at hl 4 rfl) ?_
                refine lv_iload hx hb dX3_turn_98 (lv_at hl 2 rfl) ?_
                refine m_callV C w hl.1 (As := [.int (nI (zT S t))]) (rest := []) (c_counted l D y S0 M2 F h0 A tr f2 g2 (wRC (wBf S (some (rowT S t)) (sC S (rowT S t))) (va_up (sC S) (rowT S t) (fun i => sC S (rowT S t) (tiK k1 (zT S t) i)))) (hC2.rc _) (nI (zT S t)) (nI_ok (by omega))) gX3_turn_X3_counted rfl hC2.1.1 (T := TX3) (N := 7) rfl (show (_ = _ ∧ _ ≠ _ ∧ _ ≠ _ ∧ _ = some 1) by decide +kernel) ⟨Nat.le_of_ble_eq_true rfl, Nat.le_of_ble_eq_true rfl⟩ rfl (Nat.le_of_ble_eq_true rfl) dX3_turn_100 ⟨Nat.le_of_ble_eq_true rfl, Nat.le_of_ble_eq_true rfl⟩ (fun v M1 H locs hq w => ?_)
                obtain ⟨rfl, hC9⟩ := hq
                refine W.eq (g2 := F0 m 103 ls [.int (nI (zT S t))]) rfl ?_
                exact m_iret C w dX3_turn_103 (by omega) (by omega) (⟨by rw [hm0]; unfold turn1; rw [if_neg (by omega)], by
                  rw [hm0]
                  unfold turn1
                  rw [if_neg (by omega), kep_row h2]
                  exact ⟨A, tr, f2, g2, hC9, ⟨fun r x hr2 hx => by
                    have hx : x < sZ S r := hx
                    show f2 (r + 1) x = nu (sK S r) ((va_up (sC S) (rowT S t) (fun i => sC S (rowT S t) (tiK k1 (zT S t) i))) r x) ∧ g2 (r + 1) x = th A (sK S r) ((va_up (sC S) (rowT S t) (fun i => sC S (rowT S t) (tiK k1 (zT S t) i))) r x)
                    by_cases e : r = rowT S t
                    · subst e
                      rw [show (va_up (sC S) (rowT S t) (fun i => sC S (rowT S t) (tiK k1 (zT S t) i))) (rowT S t) x = sC S (rowT S t) (tiK k1 (zT S t) x) by simp [va_up]]
                      have hxz : x < zT S t := by omega
                      have hxm := Nat.mod_lt (fmd k1 (zT S t) + x) (show 0 < zT S t by omega)
                      rw [tiK_eq k1 (by omega), (hd x (by omega)).1, (hd x (by omega)).2]
                      exact hR1.2 (rowT S t) _ rfl (show _ < sZ S (rowT S t) by omega)
                    · rw [show (va_up (sC S) (rowT S t) (fun i => sC S (rowT S t) (tiK k1 (zT S t) i))) r = sC S r by simp [va_up, e], (hf _ (fun h => e (Nat.succ.inj h))).1, (hf _ (fun h => e (Nat.succ.inj h))).2]
                      exact hR1.1 r x hr2 hx, fun r x hr2 hx => by
                    rw [(hf 0 (Ne.symm (Nat.succ_ne_zero _))).1, (hf 0 (Ne.symm (Nat.succ_ne_zero _))).2]
                    exact hR1.2 r x hr2 hx⟩⟩⟩)
              · skip
                have n_70 : ¬ (zT S t) ≤ i := fun h => absurd ((nI_leI (by omega) (by omega)).mpr h) c_70
                refine lv_aload_n hx hb dX3_turn_73 rfl (lv_at hl 3 rfl) ?_
                refine lv_iload hx hb dX3_turn_74 (lv_at hl 0 rfl) ?_
                refine lv_aload_n hx hb dX3_turn_76 rfl (lv_at hl 4 rfl) ?_
                refine m_get C w hC2.1.1 (index := 22) (T := TX3) (N := 7) rfl hi_X3 2 (by decide) (by decide +kernel) rfl dX3_turn_77 ?_
                refine lv_iload hx hb dX3_turn_80 (lv_at hl 1 rfl) ?_
                refine lv_iload hx hb dX3_turn_82 (lv_at hl 0 rfl) ?_
                refine lv_iadd hx hb dX3_turn_84 ?_
                refine m_topi (y := nI ((fmd k1 (zT S t)) + i)) (by first | exact nI_add _ _ | exact nI_1 _) ?_
                refine lv_iload hx hb dX3_turn_85 (lv_at hl 2 rfl) ?_
                refine lv_irem hx hb dX3_turn_87 (nI_ne0 (by omega) (by omega)) ?_
                refine m_topi (y := nI (((fmd k1 (zT S t)) + i) % zT S t)) (pk_rem (by omega) (by omega) (by omega)) ?_
                have hml := Nat.mod_lt ((fmd k1 (zT S t)) + i) (show 0 < zT S t by omega)
                refine m_callV C w hl.1 (As := [.int (nI i), .ref (xB A), .int (nI (((fmd k1 (zT S t)) + i) % zT S t))]) (rest := []) (c_Hold_copy l D y S0 M2 F (tr t) (sH S t) (zT S t) 0 (xn A (rowT S t + 1)) (xt A (rowT S t + 1)) hq2 (xB A) 0 64 0 (xn A 0) (xt A 0) hC2.1.2.2.2.1 (f2 (rowT S t + 1)) (f2 0) (g2 (rowT S t + 1)) (g2 0) hn2 ht2 (hC2.2.1.1 0 (Nat.zero_le _)) (hC2.2.1.2.1 0 (Nat.zero_le _)) i (((fmd k1 (zT S t)) + i) % zT S t) (by omega) (by omega) (by omega) (by omega) (fun z hz => hC2.1.th (hC2.2.1.2.2 0 (((fmd k1 (zT S t)) + i) % zT S t) z (Nat.zero_le _) (by rw [zz_0]; omega) hz))) gX3_turn_X0_copyPlace rfl hq2 (T := TX0) (N := 5) rfl (show (_ = _ ∧ _ ≠ _ ∧ _ ≠ _ ∧ _ = some 3) by decide +kernel) ⟨Nat.le_of_ble_eq_true rfl, Nat.le_of_ble_eq_true rfl⟩ rfl (Nat.le_of_ble_eq_true rfl) dX3_turn_88 ⟨Nat.le_of_ble_eq_true rfl, Nat.le_of_ble_eq_true rfl⟩ (fun v M1 H locs hq w => ?_)
                obtain ⟨rfl, hM1⟩ := hq
                have hC3 := hC2.copy (a := rowT S t + 1) (b := 0) (i := i) (j := ((fmd k1 (zT S t)) + i) % zT S t) hr (Nat.zero_le _) (by rw [zz_s]; show i < sZ S (rowT S t); omega) (by rw [zz_0]; omega)
                rw [show zz (wBf S (some (rowT S t)) (sC S (rowT S t))) (rowT S t + 1) = zT S t from (zz_s _ _).trans hzT.symm, ← hM1] at hC3
                refine W.eq (g2 := F0 m 91 ls []) rfl ?_
                refine lv_iinc (v := nI (i + 1)) (lv' := [(7, .int (nI (i + 1))), (6, .int (nI (fmd k1 (zT S t)))), (5, .int (nI (zT S t))), (3, .ref (tr t)), (0, .ref h0)]) hx hb dX3_turn_91 hl (k := 0) rfl (by first | exact nI_1 _ | exact nI_add _ _ | rfl) (by decide) rfl (fun ls hl => ?_)
                refine lv_goto (tgt := 66) hx hb dX3_turn_94 (by decide) ?_
                exact ih_lp (zT S t - (i + 1)) (by omega) (i + 1) _ _ M1 (by omega) hC3 (fun j hj => ⟨(up2_r hj).trans (hf j hj).1, (up2_r hj).trans (hf j hj).2⟩) (fun x hx => by
                    by_cases e : x = i
                    · rw [e, up2_s, up2_s, (hf 0 (Ne.symm (Nat.succ_ne_zero _))).1, (hf 0 (Ne.symm (Nat.succ_ne_zero _))).2]; exact ⟨rfl, rfl⟩
                    · rw [up2_o (Or.inr e), up2_o (Or.inr e)]; exact hd x (by omega)) _ _ ls rfl w (lv_sub hl [0, 1, 2, 3, 4] rfl)
          exact lp _ 0 f1 g1 M1 (by omega) hC1 (fun _ _ => ⟨rfl, rfl⟩) (fun x hx => by omega) _ _ ls rfl w (lv_sub hl [0, 1, 2, 4, 5] rfl)
      · skip
        exact absurd (fR_0.mpr h2) c_30
    · skip
      rw [kep_no h2] at hC1 hR1 hI1
      obtain ⟨tk, na, ta, hq1, -, hrow⟩ := hC1.1.tray hI1 ht
      have hq1 : M1 (tr t) = some (eO 0 (hF (sH S t) (zT S t) tk na ta)) := hq1
      refine lv_aload_n hx hb dX3_turn_22 rfl (lv_at hl 0 rfl) ?_
      refine m_callV C w hl.1 (As := []) (rest := []) (c_Hold_refusal l D y S0 M1 F (tr t) (sH S t) (zT S t) tk na ta hq1 hk hz) gX3_turn_X0_refusal rfl hq1 (T := TX0) (N := 5) rfl (show (_ = _ ∧ _ ≠ _ ∧ _ ≠ _ ∧ _ = some 0) by decide +kernel) ⟨Nat.le_of_ble_eq_true rfl, Nat.le_of_ble_eq_true rfl⟩ rfl (Nat.le_of_ble_eq_true rfl) dX3_turn_23 ⟨Nat.le_of_ble_eq_true rfl, Nat.le_of_ble_eq_true rfl⟩ (fun v M1 H locs hq w => ?_)
      obtain ⟨rfl, hM1⟩ := hq
      rw [hM1] at w
      clear hM1 M1
      refine W.eq (g2 := F0 m 26 ls [.int (fR (sH S t))]) rfl ?_
      refine lv_istore (lv' := [(4, .int (fR (sH S t))), (3, .ref (tr t)), (0, .ref h0), (1, .int t1), (2, .int k1)]) hx hb dX3_turn_26 hl (by decide) rfl (fun ls hl => ?_)
      refine lv_iload hx hb dX3_turn_28 (lv_at hl 0 rfl) ?_
      refine lv_if_eq (tgt := 40) hx hb dX3_turn_30 (by decide) (fun c_30 => ?_) (fun c_30 => ?_)
      · skip
        exact absurd (fR_0.mp c_30) h2
      · skip
        refine lv_aload_n hx hb dX3_turn_33 rfl (lv_at hl 2 rfl) ?_
        refine lv_iload hx hb dX3_turn_34 (lv_at hl 0 rfl) ?_
        refine m_callV C w hl.1 (As := [.int (fR (sH S t))]) (rest := []) (c_counted l D y S0 M1 F h0 A tr f1 g1 (wBf S none (sF S)) hC1 (fR (sH S t)) fR_ok) gX3_turn_X3_counted rfl hC1.1.1 (T := TX3) (N := 7) rfl (show (_ = _ ∧ _ ≠ _ ∧ _ ≠ _ ∧ _ = some 1) by decide +kernel) ⟨Nat.le_of_ble_eq_true rfl, Nat.le_of_ble_eq_true rfl⟩ rfl (Nat.le_of_ble_eq_true rfl) dX3_turn_36 ⟨Nat.le_of_ble_eq_true rfl, Nat.le_of_ble_eq_true rfl⟩ (fun v M1 H locs hq w => ?_)
        obtain ⟨rfl, hC9⟩ := hq
        refine W.eq (g2 := F0 m 39 ls [.int (fR (sH S t))]) rfl ?_
        exact m_iret C w dX3_turn_39 (by omega) (by omega) (⟨by rw [hm0]; unfold turn1; rw [if_pos (by omega)], by rw [hm0]; unfold turn1; rw [if_pos (by omega), kep_no h2]; exact ⟨A, tr, f1, g1, hC9, hR1⟩⟩)
  · skip
    have n_4 : (inP t1 12) = false := bI_f c_4
    refine lv_bipush (v := (-6)) hx hb dX3_turn_7 (by decide) ?_
    exact m_iret C w dX3_turn_9 (by omega) (by omega) (⟨by rw [(show sp_turn S t1 k1 = (-6, S) by unfold sp_turn; rw [if_pos (by first | simp [n_4])])], by rw [(show sp_turn S t1 k1 = (-6, S) by unfold sp_turn; rw [if_pos (by first | simp [n_4])])]; exact ⟨A, tr, f, g, hC, hR⟩⟩)
