theorem what_cases {c : Nat} {S : St} (hI : Inv c S) (t1 i1 : Int32) : (sp_what S t1 i1 ≤ 0 ∧ sp_at S t1 i1 = 0 ∧ sp_polished S t1 i1 = 0) ∨ ∃ t i, t < 12 ∧ t1 = nI t ∧ i1 = nI i ∧ 2 ≤ sH S t ∧ i < zT S t ∧ ((sp_what S t1 i1 = 1 ∧ sp_at S t1 i1 = sC S (rowT S t) i ∧ sp_polished S t1 i1 = 0) ∨ (∃ p, 1 ≤ p ∧ p ≤ sP S ∧ sC S (rowT S t) i = lN p ∧ sp_what S t1 i1 = nI (sS S p + 1) ∧ sp_at S t1 i1 = sC S (rowT S t) i ∧ sp_polished S t1 i1 = sL S p) ∨ (∃ r, r < sN S ∧ sC S (rowT S t) i = -1 - lN r ∧ sp_what S t1 i1 = 6 ∧ sp_at S t1 i1 = lN (sZ S r) ∧ sp_polished S t1 i1 = sumW (sC S r) (sZ S r))) := by
  have hb1 := hI.1
  have hb2 := hI.2.1
  have hb3 := hI.2.2.1
  unfold sp_what sp_at sp_polished
  by_cases h1 : inP t1 12 = false
  · rw [if_pos h1, if_pos h1, if_pos h1]
    exact Or.inl ⟨by decide, rfl, rfl⟩
  · rw [if_neg h1, if_neg h1, if_neg h1]
    obtain ⟨t, ht, rfl⟩ := inP_t (i := t1) (n := 12) (by decide) (by simpa using h1)
    rw [cN_nI (n := t) (by omega)]
    have hz := zT_le hI ht
    unfold wha1 at1 pod1
    by_cases h2 : sH S t < 2
    · have hz0 : zT S t = 0 := by unfold zT; rw [if_neg (by omega)]
      have hp : inP i1 (zT S t) = false := by
        cases h : inP i1 (zT S t) with
        | false => rfl
        | true => obtain ⟨j, hj, -⟩ := inP_t (by omega) h; omega
      rw [if_pos h2, if_pos hp, if_pos hp]
      refine Or.inl ⟨?_, rfl, rfl⟩
      unfold fR
      split
      · decide
      · split <;> decide
    · rw [if_neg h2]
      by_cases h3 : inP i1 (zT S t) = false
      · rw [if_pos h3, if_pos h3, if_pos h3]
        exact Or.inl ⟨by decide, rfl, rfl⟩
      · rw [if_neg h3, if_neg h3, if_neg h3]
        obtain ⟨i, hi, rfl⟩ := inP_t (i := i1) (n := zT S t) (by omega) (by simpa using h3)
        have hat : atx S t (nI i) = sC S (rowT S t) i := by unfold atx; rw [cN_nI (by omega)]
        obtain ⟨-, hr, ekd, -, hzT⟩ := rowI hI ht (by omega)
        rw [hat]
        by_cases h4 : isN (sH S t) = true
        · rw [if_pos h4, if_pos h4, if_pos h4]
          exact Or.inr ⟨t, i, ht, rfl, rfl, by omega, hi, Or.inl ⟨rfl, rfl, rfl⟩⟩
        · rw [if_neg h4, if_neg h4, if_neg h4]
          by_cases h5 : sC S (rowT S t) i = 0
          · rw [if_pos h5, if_pos h5, if_pos h5]
            exact Or.inl ⟨by decide, rfl, rfl⟩
          · rw [if_neg h5, if_neg h5, if_neg h5]
            rcases (hI.2.2.2.1 _ hr).2.2.2 i (by omega) with q | q | ⟨-, -, p, p1, p2, e⟩ | ⟨-, r, hr2, -, e⟩
            · have := isN_f (by simpa using h4) (show 2 ≤ sH S t by omega); omega
            · exact absurd q h5
            · rw [e, if_neg (lN_nn (by omega)), if_neg (lN_nn (by omega)), if_neg (lN_nn (by omega)), lN_pN (by omega)]
              exact Or.inr ⟨t, i, ht, rfl, rfl, by omega, hi, Or.inr (Or.inl ⟨p, p1, p2, e, rfl, e.symm, rfl⟩)⟩
            · rw [e, if_pos (neg_lt (by omega)), if_pos (neg_lt (by omega)), if_pos (neg_lt (by omega)), neg_rN (by omega)]
              exact Or.inr ⟨t, i, ht, rfl, rfl, by omega, hi, Or.inr (Or.inr ⟨r, hr2, e, rfl, rfl, rfl⟩)⟩
theorem neg_l2i {r : Nat} (h : r < 2 ^ 31) : ((-1 : Int64) - (-1 - lN r)).toInt32 = nI r := by
  have e : (-1 : Int64) - (-1 - lN r) = lN r := by
    apply Int64.toInt_inj.mp
    rw [Int64.toInt_sub, neg_toInt h, lN_toInt h, show (-1 : Int64).toInt = -1 from rfl, Int.bmod_eq_of_le (by omega) (by omega)]
    omega
  rw [e]
  exact lN_i r
set_option maxRecDepth 100000 in
set_option maxHeartbeats 4000000 in
theorem r_at (l : Launch) (D : va_G) (y : mY) (S0 : Nat) (M F : mp) (m0 : Nat) (B : Nat → Nat) (fr : Nat → Nat) (nc : Nat) (cl go bf : Nat → Int64) (cn : Nat → Int32) (S : St) (hW : MW y m0 B fr nc cl go bf cn S M) (hQ : MR fr nc cl bf cn S) (c0 : Nat) (hI : Inv c0 S) (t1 i1 : Int32) : ct l yX4_at wsX4_at 3 68 0 0 D y S0 M F [.ref m0, .int t1, .int i1] (fun v M' => v = some (.long (sp_at S t1 i1)) ∧ M' = M) := by
  refine ct_of cX4_at 4 (some .long) [(0, .ref m0), (1, .int t1), (2, .int i1)] (by decide +kernel) rfl (Nat.le_of_ble_eq_true rfl) rfl ?_
  intro p e s m below meth c ls C hnm hl w
  have hx := C.1
  have hb := C.2.1
  have hi_X4 : ∀ w ∈ u_ws RX4 TX4 16, w ∈ wsX4_at := by decide +kernel
  refine lv_aload_n hx hb dX4_at_0 rfl (lv_at hl 0 rfl) ?_
  refine lv_iload_n hx hb dX4_at_1 rfl (lv_at hl 1 rfl) ?_
  refine lv_iload_n hx hb dX4_at_2 rfl (lv_at hl 2 rfl) ?_
  refine m_callV C w hl.1 (As := [.int t1, .int i1]) (rest := []) (r_what l D y S0 M F m0 B fr nc cl go bf cn S hW hQ c0 hI t1 i1) gX4_at_X4_what rfl hW.1 (T := TX4) (N := 16) rfl (show (_ = _ ∧ _ ≠ _ ∧ _ ≠ _ ∧ _ = some 2) by decide +kernel) ⟨Nat.le_of_ble_eq_true rfl, Nat.le_of_ble_eq_true rfl⟩ rfl (Nat.le_of_ble_eq_true rfl) dX4_at_3 ⟨Nat.le_of_ble_eq_true rfl, Nat.le_of_ble_eq_true rfl⟩ (fun v M1 H locs hq w => ?_)
  obtain ⟨rfl, hM1⟩ := hq
  rw [hM1] at w
  clear hM1 M1
  refine W.eq (g2 := F0 m 6 ls [.int (sp_what S t1 i1)]) rfl ?_
  have hb1 := hI.1
  have hb2 := hI.2.1
  have hb3 := hI.2.2.1
  rcases what_cases hI t1 i1 with ⟨hw, ha, hp⟩ | ⟨t, i, ht, et, ei, h2, hi, hw⟩
  · skip
    refine lv_istore_n (lv' := [(3, .int (sp_what S t1 i1)), (0, .ref m0), (1, .int t1), (2, .int i1)]) hx hb dX4_at_6 rfl hl (by decide) rfl (fun ls hl => ?_)
    refine lv_iload_n hx hb dX4_at_7 rfl (lv_at hl 0 rfl) ?_
    refine lv_if_gt (tgt := 13) hx hb dX4_at_8 (by decide) (fun c_8 => ?_) (fun c_8 => ?_)
    · skip
      exact absurd c_8 (Int32.not_lt.mpr hw)
    · skip
      refine lv_lconst (v := 0) hx hb dX4_at_11 (by decide) ?_
      exact m_lret C w dX4_at_12 (by omega) (by omega) (⟨by rw [ha], rfl⟩)
  · have hz := zT_le hI ht
    rcases hw with ⟨hw, ha, hp⟩ | ⟨pz, p1, p2, ex, hw, ha, hp⟩ | ⟨r, hr2, ex, hw, ha, hp⟩
    · skip
      refine m_topi (y := 1) hw ?_
      refine lv_istore_n (lv' := [(3, .int 1), (0, .ref m0), (1, .int t1), (2, .int i1)]) hx hb dX4_at_6 rfl hl (by decide) rfl (fun ls hl => ?_)
      refine lv_iload_n hx hb dX4_at_7 rfl (lv_at hl 0 rfl) ?_
      refine lv_if_gt (tgt := 13) hx hb dX4_at_8 (by decide) (fun _ => ?_) (fun h => absurd h (by decide))
      refine lv_iload_n hx hb dX4_at_13 rfl (lv_at hl 0 rfl) ?_
      refine lv_bipush (v := 6) hx hb dX4_at_14 (by decide) ?_
      refine lv_icmp_ne (tgt := 39) hx hb dX4_at_16 (by decide) (fun _ => ?_) (fun h => absurd h (by decide))
      refine lv_aload_n hx hb dX4_at_39 rfl (lv_at hl 1 rfl) ?_
      refine lv_iload_n hx hb dX4_at_40 rfl (lv_at hl 2 rfl) ?_
      refine m_topi (y := nI t) et ?_
      refine lv_iload_n hx hb dX4_at_41 rfl (lv_at hl 3 rfl) ?_
      refine m_topi (y := nI i) ei ?_
      refine m_callV C w hl.1 (As := [.int (nI t), .int (nI i)]) (rest := []) (r_get l D y S0 M F m0 B fr nc cl go bf bf cn S hW hQ c0 hI t ht h2 i hi) gX4_at_X4_get rfl hW.1 (T := TX4) (N := 16) rfl (show (_ = _ ∧ _ ≠ _ ∧ _ ≠ _ ∧ _ = some 2) by decide +kernel) ⟨Nat.le_of_ble_eq_true rfl, Nat.le_of_ble_eq_true rfl⟩ rfl (Nat.le_of_ble_eq_true rfl) dX4_at_42 ⟨Nat.le_of_ble_eq_true rfl, Nat.le_of_ble_eq_true rfl⟩ (fun v M1 H locs hq w => ?_)
      obtain ⟨rfl, hM1⟩ := hq
      rw [hM1] at w
      clear hM1 M1
      refine W.eq (g2 := F0 m 45 ls [.long (sC S (rowT S t) i)]) rfl ?_
      exact m_lret C w dX4_at_45 (by omega) (by omega) (⟨by rw [ha], rfl⟩)
    · skip
      have hs4 := (hI.2.2.2.2.1 pz p1 p2)
      refine m_topi (y := nI (sS S pz + 1)) hw ?_
      refine lv_istore_n (lv' := [(3, .int (nI (sS S pz + 1))), (0, .ref m0), (1, .int t1), (2, .int i1)]) hx hb dX4_at_6 rfl hl (by decide) rfl (fun ls hl => ?_)
      refine lv_iload_n hx hb dX4_at_7 rfl (lv_at hl 0 rfl) ?_
      refine lv_if_gt (tgt := 13) hx hb dX4_at_8 (by decide) (fun c_8 => ?_) (fun c_8 => ?_)
      · skip
        have n_8 : 0 < (sS S pz + 1) := (nI_ltI (by omega) (by omega)).mp c_8
        refine lv_iload_n hx hb dX4_at_13 rfl (lv_at hl 0 rfl) ?_
        refine lv_bipush (v := 6) hx hb dX4_at_14 (by decide) ?_
        refine lv_icmp_ne (tgt := 39) hx hb dX4_at_16 (by decide) (fun c_16 => ?_) (fun c_16 => ?_)
        · skip
          have n_16 : ¬ (sS S pz + 1) = 6 := fun h => absurd ((nI_eq (by omega) (by omega)).mpr h) c_16
          refine lv_aload_n hx hb dX4_at_39 rfl (lv_at hl 1 rfl) ?_
          refine lv_iload_n hx hb dX4_at_40 rfl (lv_at hl 2 rfl) ?_
          refine m_topi (y := nI t) et ?_
          refine lv_iload_n hx hb dX4_at_41 rfl (lv_at hl 3 rfl) ?_
          refine m_topi (y := nI i) ei ?_
          refine m_callV C w hl.1 (As := [.int (nI t), .int (nI i)]) (rest := []) (r_get l D y S0 M F m0 B fr nc cl go bf bf cn S hW hQ c0 hI t ht h2 i hi) gX4_at_X4_get rfl hW.1 (T := TX4) (N := 16) rfl (show (_ = _ ∧ _ ≠ _ ∧ _ ≠ _ ∧ _ = some 2) by decide +kernel) ⟨Nat.le_of_ble_eq_true rfl, Nat.le_of_ble_eq_true rfl⟩ rfl (Nat.le_of_ble_eq_true rfl) dX4_at_42 ⟨Nat.le_of_ble_eq_true rfl, Nat.le_of_ble_eq_true rfl⟩ (fun v M1 H locs hq w => ?_)
          obtain ⟨rfl, hM1⟩ := hq
          rw [hM1] at w
          clear hM1 M1
          refine W.eq (g2 := F0 m 45 ls [.long (sC S (rowT S t) i)]) rfl ?_
          exact m_lret C w dX4_at_45 (by omega) (by omega) (⟨by rw [ha], rfl⟩)
        · skip
          have n_16 : (sS S pz + 1) = 6 := (nI_eq (by omega) (by omega)).mp (by first | exact c_16 | exact Classical.not_not.mp c_16)
          exact absurd n_16 (by omega)
      · skip
        have n_8 : ¬ 0 < (sS S pz + 1) := fun h => absurd ((nI_ltI (by omega) (by omega)).mpr h) c_8
        exact absurd (show (0 : Nat) < sS S pz + 1 by omega) n_8
    · skip
      have hzr := (hI.2.2.2.1 r hr2).2.2.1
      refine m_topi (y := 6) hw ?_
      refine lv_istore_n (lv' := [(3, .int 6), (0, .ref m0), (1, .int t1), (2, .int i1)]) hx hb dX4_at_6 rfl hl (by decide) rfl (fun ls hl => ?_)
      refine lv_iload_n hx hb dX4_at_7 rfl (lv_at hl 0 rfl) ?_
      refine lv_if_gt (tgt := 13) hx hb dX4_at_8 (by decide) (fun _ => ?_) (fun h => absurd h (by decide))
      refine lv_iload_n hx hb dX4_at_13 rfl (lv_at hl 0 rfl) ?_
      refine lv_bipush (v := 6) hx hb dX4_at_14 (by decide) ?_
      refine lv_icmp_ne (tgt := 39) hx hb dX4_at_16 (by decide) (fun h => absurd h (by decide)) (fun _ => ?_)
      refine lv_aload_n hx hb dX4_at_19 rfl (lv_at hl 1 rfl) ?_
      refine m_get C w hW.1 (index := 22) (T := TX4) (N := 16) rfl hi_X4 4 (by decide) (by decide +kernel) rfl dX4_at_20 ?_
      refine lv_ldc2 (v := (-1)) hx hb C.2.2.2.1 (C.2.2.2.2.1 (.constantLong RX4 82 (-1)) (by decide +kernel)) dX4_at_23 ?_
      refine lv_aload_n hx hb dX4_at_26 rfl (lv_at hl 1 rfl) ?_
      refine lv_iload_n hx hb dX4_at_27 rfl (lv_at hl 2 rfl) ?_
      refine m_topi (y := nI t) et ?_
      refine lv_iload_n hx hb dX4_at_28 rfl (lv_at hl 3 rfl) ?_
      refine m_topi (y := nI i) ei ?_
      refine m_callV C w hl.1 (As := [.int (nI t), .int (nI i)]) (rest := [.long (-1), .ref (B 4)]) (r_get l D y S0 M F m0 B fr nc cl go bf bf cn S hW hQ c0 hI t ht h2 i hi) gX4_at_X4_get rfl hW.1 (T := TX4) (N := 16) rfl (show (_ = _ ∧ _ ≠ _ ∧ _ ≠ _ ∧ _ = some 2) by decide +kernel) ⟨Nat.le_of_ble_eq_true rfl, Nat.le_of_ble_eq_true rfl⟩ rfl (Nat.le_of_ble_eq_true rfl) dX4_at_29 ⟨Nat.le_of_ble_eq_true rfl, Nat.le_of_ble_eq_true rfl⟩ (fun v M1 H locs hq w => ?_)
      obtain ⟨rfl, hM1⟩ := hq
      rw [hM1] at w
      clear hM1 M1
      refine W.eq (g2 := F0 m 32 ls [.long (sC S (rowT S t) i), .long (-1), .ref (B 4)]) rfl ?_
      refine lv_lsub hx hb dX4_at_32 ?_
      rw [ex]
      refine lv_l2i (v := nI r) hx hb dX4_at_33 (neg_l2i (by omega)) ?_
      refine m_iald C w hW.a4 r rfl (by omega) (by omega) dX4_at_34 ?_
      refine lv_i2l (v := lN (sZ S r)) hx hb dX4_at_35 (nI_l (by omega)) ?_
      refine lv_goto (tgt := 45) hx hb dX4_at_36 (by decide) ?_
      exact m_lret C w dX4_at_45 (by omega) (by omega) (⟨by rw [ha], rfl⟩)
set_option maxRecDepth 100000 in
set_option maxHeartbeats 4000000 in
theorem r_polished (l : Launch) (D : va_G) (y : mY) (S0 : Nat) (M F : mp) (m0 : Nat) (B : Nat → Nat) (fr : Nat → Nat) (nc : Nat) (cl go bf : Nat → Int64) (cn : Nat → Int32) (S : St) (hW : MW y m0 B fr nc cl go bf cn S M) (hQ : MR fr nc cl bf cn S) (c0 : Nat) (hI : Inv c0 S) (t1 i1 : Int32) : ct l yX4_polished wsX4_polished 3 68 0 0 D y S0 M F [.ref m0, .int t1, .int i1] (fun v M' => v = some (.int (sp_polished S t1 i1)) ∧ M' = M) := by
  refine ct_of cX4_polished 9 (some .int) [(0, .ref m0), (1, .int t1), (2, .int i1)] (by decide +kernel) rfl (Nat.le_of_ble_eq_true rfl) rfl ?_
  intro p e s m below meth c ls C hnm hl w
  have hx := C.1
  have hb := C.2.1
  have hi_X4 : ∀ w ∈ u_ws RX4 TX4 16, w ∈ wsX4_polished := by decide +kernel
  refine lv_aload_n hx hb dX4_polished_0 rfl (lv_at hl 0 rfl) ?_
  refine lv_iload_n hx hb dX4_polished_1 rfl (lv_at hl 1 rfl) ?_
  refine lv_iload_n hx hb dX4_polished_2 rfl (lv_at hl 2 rfl) ?_
  refine m_callV C w hl.1 (As := [.int t1, .int i1]) (rest := []) (r_what l D y S0 M F m0 B fr nc cl go bf cn S hW hQ c0 hI t1 i1) gX4_polished_X4_what rfl hW.1 (T := TX4) (N := 16) rfl (show (_ = _ ∧ _ ≠ _ ∧ _ ≠ _ ∧ _ = some 2) by decide +kernel) ⟨Nat.le_of_ble_eq_true rfl, Nat.le_of_ble_eq_true rfl⟩ rfl (Nat.le_of_ble_eq_true rfl) dX4_polished_3 ⟨Nat.le_of_ble_eq_true rfl, Nat.le_of_ble_eq_true rfl⟩ (fun v M1 H locs hq w => ?_)
  obtain ⟨rfl, hM1⟩ := hq
  rw [hM1] at w
  clear hM1 M1
  refine W.eq (g2 := F0 m 6 ls [.int (sp_what S t1 i1)]) rfl ?_
  have hb1 := hI.1
  have hb2 := hI.2.1
  have hb3 := hI.2.2.1
  rcases what_cases hI t1 i1 with ⟨hw, ha, hp⟩ | ⟨t, i, ht, et, ei, h2, hi, hw⟩
  · skip
    refine lv_istore_n (lv' := [(3, .int (sp_what S t1 i1)), (0, .ref m0), (1, .int t1), (2, .int i1)]) hx hb dX4_polished_6 rfl hl (by decide) rfl (fun ls hl => ?_)
    refine lv_iload_n hx hb dX4_polished_7 rfl (lv_at hl 0 rfl) ?_
    refine lv_iconst (v := 2) hx hb dX4_polished_8 (by decide) ?_
    refine lv_icmp_ge (tgt := 14) hx hb dX4_polished_9 (by decide) (fun c_9 => ?_) (fun c_9 => ?_)
    · skip
      exact absurd (Int32.le_trans c_9 hw) (by decide)
    · skip
      refine lv_iconst (v := 0) hx hb dX4_polished_12 (by decide) ?_
      exact m_iret C w dX4_polished_13 (by omega) (by omega) (⟨by rw [hp], rfl⟩)
  · have hz := zT_le hI ht
    rcases hw with ⟨hw, ha, hp⟩ | ⟨pz, p1, p2, ex, hw, ha, hp⟩ | ⟨r, hr2, ex, hw, ha, hp⟩
    · skip
      refine m_topi (y := 1) hw ?_
      refine lv_istore_n (lv' := [(3, .int 1), (0, .ref m0), (1, .int t1), (2, .int i1)]) hx hb dX4_polished_6 rfl hl (by decide) rfl (fun ls hl => ?_)
      refine lv_iload_n hx hb dX4_polished_7 rfl (lv_at hl 0 rfl) ?_
      refine lv_iconst (v := 2) hx hb dX4_polished_8 (by decide) ?_
      refine lv_icmp_ge (tgt := 14) hx hb dX4_polished_9 (by decide) (fun h => absurd h (by decide)) (fun _ => ?_)
      refine lv_iconst (v := 0) hx hb dX4_polished_12 (by decide) ?_
      exact m_iret C w dX4_polished_13 (by omega) (by omega) (⟨by rw [hp], rfl⟩)
    · skip
      have hs4 := (hI.2.2.2.2.1 pz p1 p2)
      refine m_topi (y := nI (sS S pz + 1)) hw ?_
      refine lv_istore_n (lv' := [(3, .int (nI (sS S pz + 1))), (0, .ref m0), (1, .int t1), (2, .int i1)]) hx hb dX4_polished_6 rfl hl (by decide) rfl (fun ls hl => ?_)
      refine lv_iload_n hx hb dX4_polished_7 rfl (lv_at hl 0 rfl) ?_
      refine lv_iconst (v := 2) hx hb dX4_polished_8 (by decide) ?_
      refine lv_icmp_ge (tgt := 14) hx hb dX4_polished_9 (by decide) (fun c_9 => ?_) (fun c_9 => ?_)
      · skip
        have n_9 : 2 ≤ (sS S pz + 1) := (nI_leI (by omega) (by omega)).mp c_9
        refine lv_aload_n hx hb dX4_polished_14 rfl (lv_at hl 1 rfl) ?_
        refine lv_iload_n hx hb dX4_polished_15 rfl (lv_at hl 2 rfl) ?_
        refine m_topi (y := nI t) et ?_
        refine lv_iload_n hx hb dX4_polished_16 rfl (lv_at hl 3 rfl) ?_
        refine m_topi (y := nI i) ei ?_
        refine m_callV C w hl.1 (As := [.int (nI t), .int (nI i)]) (rest := []) (r_get l D y S0 M F m0 B fr nc cl go bf bf cn S hW hQ c0 hI t ht h2 i hi) gX4_polished_X4_get rfl hW.1 (T := TX4) (N := 16) rfl (show (_ = _ ∧ _ ≠ _ ∧ _ ≠ _ ∧ _ = some 2) by decide +kernel) ⟨Nat.le_of_ble_eq_true rfl, Nat.le_of_ble_eq_true rfl⟩ rfl (Nat.le_of_ble_eq_true rfl) dX4_polished_17 ⟨Nat.le_of_ble_eq_true rfl, Nat.le_of_ble_eq_true rfl⟩ (fun v M1 H locs hq w => ?_)
        obtain ⟨rfl, hM1⟩ := hq
        rw [hM1] at w
        clear hM1 M1
        refine W.eq (g2 := F0 m 20 ls [.long (sC S (rowT S t) i)]) rfl ?_
        refine lv_lstore (lv' := [(4, .long (sC S (rowT S t) i)), (3, .int (nI (sS S pz + 1))), (0, .ref m0), (1, .int t1), (2, .int i1)]) hx hb dX4_polished_20 hl (by decide) rfl (fun ls hl => ?_)
        refine lv_iload_n hx hb dX4_polished_22 rfl (lv_at hl 1 rfl) ?_
        refine lv_bipush (v := 6) hx hb dX4_polished_23 (by decide) ?_
        refine lv_icmp_ge (tgt := 37) hx hb dX4_polished_25 (by decide) (fun c_25 => ?_) (fun c_25 => ?_)
        · skip
          have n_25 : 6 ≤ (sS S pz + 1) := (nI_leI (by omega) (by omega)).mp c_25
          exact absurd n_25 (by omega)
        · skip
          have n_25 : ¬ 6 ≤ (sS S pz + 1) := fun h => absurd ((nI_leI (by omega) (by omega)).mpr h) c_25
          refine lv_aload_n hx hb dX4_polished_28 rfl (lv_at hl 2 rfl) ?_
          refine m_get C w hW.1 (index := 33) (T := TX4) (N := 16) rfl hi_X4 9 (by decide) (by decide +kernel) rfl dX4_polished_29 ?_
          refine lv_lload hx hb dX4_polished_32 (lv_at hl 0 rfl) ?_
          refine lv_l2i (v := nI pz) hx hb dX4_polished_34 (by rw [ex]; exact lN_i pz) ?_
          refine m_iald C w hW.a7 pz rfl (by omega) (by omega) dX4_polished_35 ?_
          exact m_iret C w dX4_polished_36 (by omega) (by omega) (⟨by rw [hp], rfl⟩)
      · skip
        have n_9 : ¬ 2 ≤ (sS S pz + 1) := fun h => absurd ((nI_leI (by omega) (by omega)).mpr h) c_9
        exact absurd n_9 (by omega)
    · skip
      have hzr := (hI.2.2.2.1 r hr2).2.2.1
      refine m_topi (y := 6) hw ?_
      refine lv_istore_n (lv' := [(3, .int 6), (0, .ref m0), (1, .int t1), (2, .int i1)]) hx hb dX4_polished_6 rfl hl (by decide) rfl (fun ls hl => ?_)
      refine lv_iload_n hx hb dX4_polished_7 rfl (lv_at hl 0 rfl) ?_
      refine lv_iconst (v := 2) hx hb dX4_polished_8 (by decide) ?_
      refine lv_icmp_ge (tgt := 14) hx hb dX4_polished_9 (by decide) (fun _ => ?_) (fun h => absurd h (by decide))
      refine lv_aload_n hx hb dX4_polished_14 rfl (lv_at hl 1 rfl) ?_
      refine lv_iload_n hx hb dX4_polished_15 rfl (lv_at hl 2 rfl) ?_
      refine m_topi (y := nI t) et ?_
      refine lv_iload_n hx hb dX4_polished_16 rfl (lv_at hl 3 rfl) ?_
      refine m_topi (y := nI i) ei ?_
      refine m_callV C w hl.1 (As := [.int (nI t), .int (nI i)]) (rest := []) (r_get l D y S0 M F m0 B fr nc cl go bf bf cn S hW hQ c0 hI t ht h2 i hi) gX4_polished_X4_get rfl hW.1 (T := TX4) (N := 16) rfl (show (_ = _ ∧ _ ≠ _ ∧ _ ≠ _ ∧ _ = some 2) by decide +kernel) ⟨Nat.le_of_ble_eq_true rfl, Nat.le_of_ble_eq_true rfl⟩ rfl (Nat.le_of_ble_eq_true rfl) dX4_polished_17 ⟨Nat.le_of_ble_eq_true rfl, Nat.le_of_ble_eq_true rfl⟩ (fun v M1 H locs hq w => ?_)
      obtain ⟨rfl, hM1⟩ := hq
      rw [hM1] at w
      clear hM1 M1
      refine W.eq (g2 := F0 m 20 ls [.long (sC S (rowT S t) i)]) rfl ?_
      refine lv_lstore (lv' := [(4, .long (sC S (rowT S t) i)), (3, .int 6), (0, .ref m0), (1, .int t1), (2, .int i1)]) hx hb dX4_polished_20 hl (by decide) rfl (fun ls hl => ?_)
      refine lv_iload_n hx hb dX4_polished_22 rfl (lv_at hl 1 rfl) ?_
      refine lv_bipush (v := 6) hx hb dX4_polished_23 (by decide) ?_
      refine lv_icmp_ge (tgt := 37) hx hb dX4_polished_25 (by decide) (fun _ => ?_) (fun h => absurd h (by decide))
      have hq1 := hQ.1 r hr2
      have hq3 := hQ.2.2.1
      refine lv_ldc2 (v := (-1)) hx hb C.2.2.2.1 (C.2.2.2.2.1 (.constantLong RX4 82 (-1)) (by decide +kernel)) dX4_polished_37 ?_
      refine lv_lload hx hb dX4_polished_40 (lv_at hl 0 rfl) ?_
      refine lv_lsub hx hb dX4_polished_42 ?_
      rw [ex]
      refine lv_l2i (v := nI r) hx hb dX4_polished_43 (neg_l2i (by omega)) ?_
      refine lv_istore (lv' := [(6, .int (nI r)), (4, .long (sC S (rowT S t) i)), (3, .int 6), (0, .ref m0), (1, .int t1), (2, .int i1)]) hx hb dX4_polished_44 hl (by decide) rfl (fun ls hl => ?_)
      refine lv_iconst (v := 0) hx hb dX4_polished_46 (by decide) ?_
      refine lv_istore (lv' := [(7, .int 0), (6, .int (nI r)), (4, .long (sC S (rowT S t) i)), (3, .int 6), (0, .ref m0), (1, .int t1), (2, .int i1)]) hx hb dX4_polished_47 hl (by decide) rfl (fun ls hl => ?_)
      refine lv_iconst (v := 0) hx hb dX4_polished_49 (by decide) ?_
      refine lv_istore (lv' := [(8, .int 0), (7, .int 0), (6, .int (nI r)), (4, .long (sC S (rowT S t) i)), (3, .int 6), (0, .ref m0), (1, .int t1), (2, .int i1)]) hx hb dX4_polished_50 hl (by decide) rfl (fun ls hl => ?_)
      have lp : ∀ (kf : Nat) (k : Nat), (k ≤ sZ S r) →  ∀ (H : Heap) (locs : List Loc) (ls : Array Slot), sZ S r - k = kf → mS D S0 M F s H locs → lv_has ls 9 [(8, .int (nI k)), (7, .int (sumW (sC S r) k)), (6, .int (nI r)), (0, .ref m0)] → W p l e { frames := 3, cells := 0, slots := 0, locals := 68 } s m ([.ref m0, .int t1, .int i1] : List Value).toArray below meth c H locs 0 0 (MQ below (mQ D S0 F (fun v M' => v = some (.int (sp_polished S t1 i1)) ∧ M' = M)) ([.ref m0, .int t1, .int i1] : List Value).toArray s 0 0 (fun q => S0 ≤ q)) (F0 m 52 ls []) := by
        clear w hl
        intro kf
        induction kf using Nat.strongRecOn with
        | _ kf ih_lp =>
          intro k hk H locs ls hkf w hl
          refine lv_iload hx hb dX4_polished_52 (lv_at hl 0 rfl) ?_
          refine lv_aload_n hx hb dX4_polished_54 rfl (lv_at hl 3 rfl) ?_
          refine m_get C w hW.1 (index := 22) (T := TX4) (N := 16) rfl hi_X4 4 (by decide) (by decide +kernel) rfl dX4_polished_55 ?_
          refine lv_iload hx hb dX4_polished_58 (lv_at hl 2 rfl) ?_
          refine m_iald C w hW.a4 r rfl (by omega) (by omega) dX4_polished_60 ?_
          refine lv_icmp_ge (tgt := 91) hx hb dX4_polished_61 (by decide) (fun c_61 => ?_) (fun c_61 => ?_)
          · skip
            have n_61 : (sZ S r) ≤ k := (nI_leI (by omega) (by omega)).mp c_61
            refine lv_iload hx hb dX4_polished_91 (lv_at hl 1 rfl) ?_
            exact m_iret C w dX4_polished_93 (by omega) (by omega) (⟨by rw [hp, show sZ S r = k by omega], rfl⟩)
          · skip
            have n_61 : ¬ (sZ S r) ≤ k := fun h => absurd ((nI_leI (by omega) (by omega)).mpr h) c_61
            refine lv_iload hx hb dX4_polished_64 (lv_at hl 1 rfl) ?_
            refine lv_aload_n hx hb dX4_polished_66 rfl (lv_at hl 3 rfl) ?_
            refine m_get C w hW.1 (index := 26) (T := TX4) (N := 16) rfl hi_X4 5 (by decide) (by decide +kernel) rfl dX4_polished_67 ?_
            refine lv_aload_n hx hb dX4_polished_70 rfl (lv_at hl 3 rfl) ?_
            refine m_get C w hW.1 (index := 19) (T := TX4) (N := 16) rfl hi_X4 3 (by decide) (by decide +kernel) rfl dX4_polished_71 ?_
            refine lv_iload hx hb dX4_polished_74 (lv_at hl 2 rfl) ?_
            refine m_iald C w hW.a3 r rfl (by omega) (by omega) dX4_polished_76 ?_
            refine lv_iload hx hb dX4_polished_77 (lv_at hl 0 rfl) ?_
            refine lv_iadd hx hb dX4_polished_79 ?_
            refine m_topi (y := nI ((fr r) + k)) (by first | exact nI_add _ _ | exact nI_1 _) ?_
            refine m_lald C w hW.a5 (fr r + k) rfl (by omega) (by omega) dX4_polished_80 ?_
            refine m_topl (y := sC S r k) (hQ.2.2.2.2.1 r k hr2 (by omega)) ?_
            refine lv_l2i hx hb dX4_polished_81 rfl ?_
            refine lv_iadd hx hb dX4_polished_82 ?_
            refine lv_istore (lv' := [(7, .int ((sumW (sC S r) k) + ((sC S r k).toInt32))), (8, .int (nI k)), (6, .int (nI r)), (0, .ref m0)]) hx hb dX4_polished_83 hl (by decide) rfl (fun ls hl => ?_)
            refine lv_iinc (v := nI (k + 1)) (lv' := [(8, .int (nI (k + 1))), (7, .int ((sumW (sC S r) k) + ((sC S r k).toInt32))), (6, .int (nI r)), (0, .ref m0)]) hx hb dX4_polished_85 hl (k := 1) rfl (by first | exact nI_1 _ | exact nI_add _ _ | rfl) (by decide) rfl (fun ls hl => ?_)
            refine lv_goto (tgt := 52) hx hb dX4_polished_88 (by decide) ?_
            exact ih_lp (sZ S r - (k + 1)) (by omega) (k + 1) (by omega) _ _ ls rfl w (lv_sub hl [0, 1, 2, 3] rfl)
      exact lp _ 0 (by omega) _ _ ls rfl w (lv_sub hl [0, 1, 2, 5] rfl)
set_option maxRecDepth 100000 in
set_option maxHeartbeats 4000000 in
/-- BeadBenchModel() -/
theorem r_init (l : Launch) (D : va_G) (y : mY) (S0 : Nat) (M F : mp) (m0 : Nat) (hh : M m0 = some (eO 3 [.null, .null, .null, .null, .null, .null, .int 0, .int 0, .null, .null, .int 0, .null, .null, .int 0, .int 0, .null])) : ct l yX4_init wsX4_init 1 40 11 35800 D y S0 M F [.ref m0] (fun v M' => v = none ∧ RM y m0 s00 M') := by
  refine ct_of cX4_init 1 none [(0, .ref m0)] (by decide +kernel) rfl (Nat.le_of_ble_eq_true rfl) rfl ?_
  intro p e s m below meth c ls C hnm hl w
  have hx := C.1
  have hb := C.2.1
  have hi_X4 : ∀ w ∈ u_ws RX4 TX4 16, w ∈ wsX4_init := by decide +kernel
  refine lv_aload_n hx hb dX4_init_0 rfl (lv_at hl 0 rfl) ?_
  refine W.objInit hx hb C.2.2.2.1 (C.2.2.2.2.1 (.methodLink RX4 1 objectInit) (by decide +kernel)) (C.2.2.2.2.1 (.instanceMethod objectInit) (by decide +kernel)) (C.2.2.2.2.1 _ (List.mem_of_getElem? (i := 3) rfl)) rfl (by rw [C.2.2.1]; exact hl.1) rfl dX4_init_1 (Nat.le_of_ble_eq_true rfl) (Nat.le_of_ble_eq_true rfl) ?_
  refine W.eq (g2 := F0 m 4 ls []) rfl ?_
  refine lv_aload_n hx hb dX4_init_4 rfl (lv_at hl 0 rfl) ?_
  refine lv_bipush (v := 12) hx hb dX4_init_5 (by decide) ?_
  refine m_newI C w (by decide +kernel) 12 rfl (by omega) (Nat.le_of_ble_eq_true rfl) (Nat.le_of_ble_eq_true rfl) dX4_init_7 (fun a0 H hMa0 hFa0 w => ?_)
  obtain ⟨M1, e_M1⟩ : ∃ z, z = mu M a0 (eI y 12 (fun _ => 0)) := ⟨_, rfl⟩
  rw [← e_M1] at w
  have f1_m0 : M1 m0 = some (eO 3 [.null, .null, .null, .null, .null, .null, .int 0, .int 0, .null, .null, .int 0, .null, .null, .int 0, .int 0, .null]) := by rw [e_M1]; exact mu_k (m_fr hh hMa0) hh
  have f1_a0 : M1 a0 = some (eI y 12 (fun _ => 0)) := by rw [e_M1]; exact mu_s
  refine m_putF C w f1_m0 (v := .ref a0) (index := 7) (T := TX4) (N := 16) rfl hi_X4 tyX4 tyX4_ok nmX4 0 (by decide) (by decide +kernel) rfl hnm rfl (tyX4_ok 0 (by decide)) rfl rfl (Nat.le_of_ble_eq_true rfl) dX4_init_9 (fun H locs w => ?_)
  obtain ⟨M2, e_M2⟩ : ∃ z, z = mu M1 m0 (eO 3 [.ref a0, .null, .null, .null, .null, .null, .int 0, .int 0, .null, .null, .int 0, .null, .null, .int 0, .int 0, .null]) := ⟨_, rfl⟩
  have w : mS D S0 M2 F s H locs := by rw [e_M2]; exact w
  have f2_a0 : M2 a0 = some (eI y 12 (fun _ => 0)) := by rw [e_M2]; exact mu_k (m_ne f1_a0 f1_m0 (by first | exact ne_LT | exact ne_LI | exact ne_LH | exact ne_TL | exact ne_IL | exact ne_IH | exact ne_IT | exact ne_HL | exact ne_HI | exact ne_TI | exact ne_OA | exact ne_AO | (intro h; cases h))) f1_a0
  have f2_m0 : M2 m0 = some (eO 3 [.ref a0, .null, .null, .null, .null, .null, .int 0, .int 0, .null, .null, .int 0, .null, .null, .int 0, .int 0, .null]) := by rw [e_M2]; exact mu_s
  refine lv_aload_n hx hb dX4_init_12 rfl (lv_at hl 0 rfl) ?_
  refine lv_bipush (v := 12) hx hb dX4_init_13 (by decide) ?_
  refine m_newI C w (by decide +kernel) 12 rfl (by omega) (Nat.le_of_ble_eq_true rfl) (Nat.le_of_ble_eq_true rfl) dX4_init_15 (fun a1 H hMa1 hFa1 w => ?_)
  obtain ⟨M3, e_M3⟩ : ∃ z, z = mu M2 a1 (eI y 12 (fun _ => 0)) := ⟨_, rfl⟩
  rw [← e_M3] at w
  have f3_m0 : M3 m0 = some (eO 3 [.ref a0, .null, .null, .null, .null, .null, .int 0, .int 0, .null, .null, .int 0, .null, .null, .int 0, .int 0, .null]) := by rw [e_M3]; exact mu_k (m_fr f2_m0 hMa1) f2_m0
  have f3_a0 : M3 a0 = some (eI y 12 (fun _ => 0)) := by rw [e_M3]; exact mu_k (m_fr f2_a0 hMa1) f2_a0
  have f3_a1 : M3 a1 = some (eI y 12 (fun _ => 0)) := by rw [e_M3]; exact mu_s
  have d_a0_a1 : a0 ≠ a1 := m_fr f2_a0 hMa1
  refine m_putF C w f3_m0 (v := .ref a1) (index := 13) (T := TX4) (N := 16) rfl hi_X4 tyX4 tyX4_ok nmX4 1 (by decide) (by decide +kernel) rfl hnm rfl (tyX4_ok 1 (by decide)) rfl rfl (Nat.le_of_ble_eq_true rfl) dX4_init_17 (fun H locs w => ?_)
  obtain ⟨M4, e_M4⟩ : ∃ z, z = mu M3 m0 (eO 3 [.ref a0, .ref a1, .null, .null, .null, .null, .int 0, .int 0, .null, .null, .int 0, .null, .null, .int 0, .int 0, .null]) := ⟨_, rfl⟩
  have w : mS D S0 M4 F s H locs := by rw [e_M4]; exact w
  have f4_a0 : M4 a0 = some (eI y 12 (fun _ => 0)) := by rw [e_M4]; exact mu_k (m_ne f3_a0 f3_m0 (by first | exact ne_LT | exact ne_LI | exact ne_LH | exact ne_TL | exact ne_IL | exact ne_IH | exact ne_IT | exact ne_HL | exact ne_HI | exact ne_TI | exact ne_OA | exact ne_AO | (intro h; cases h))) f3_a0
  have f4_a1 : M4 a1 = some (eI y 12 (fun _ => 0)) := by rw [e_M4]; exact mu_k (m_ne f3_a1 f3_m0 (by first | exact ne_LT | exact ne_LI | exact ne_LH | exact ne_TL | exact ne_IL | exact ne_IH | exact ne_IT | exact ne_HL | exact ne_HI | exact ne_TI | exact ne_OA | exact ne_AO | (intro h; cases h))) f3_a1
  have f4_m0 : M4 m0 = some (eO 3 [.ref a0, .ref a1, .null, .null, .null, .null, .int 0, .int 0, .null, .null, .int 0, .null, .null, .int 0, .int 0, .null]) := by rw [e_M4]; exact mu_s
  refine lv_aload_n hx hb dX4_init_20 rfl (lv_at hl 0 rfl) ?_
  refine lv_sipush (v := 520) hx hb dX4_init_21 (by decide) ?_
  refine m_newI C w (by decide +kernel) 520 rfl (by omega) (Nat.le_of_ble_eq_true rfl) (Nat.le_of_ble_eq_true rfl) dX4_init_24 (fun a2 H hMa2 hFa2 w => ?_)
  obtain ⟨M5, e_M5⟩ : ∃ z, z = mu M4 a2 (eI y 520 (fun _ => 0)) := ⟨_, rfl⟩
  rw [← e_M5] at w
  have f5_m0 : M5 m0 = some (eO 3 [.ref a0, .ref a1, .null, .null, .null, .null, .int 0, .int 0, .null, .null, .int 0, .null, .null, .int 0, .int 0, .null]) := by rw [e_M5]; exact mu_k (m_fr f4_m0 hMa2) f4_m0
  have f5_a0 : M5 a0 = some (eI y 12 (fun _ => 0)) := by rw [e_M5]; exact mu_k (m_fr f4_a0 hMa2) f4_a0
  have f5_a1 : M5 a1 = some (eI y 12 (fun _ => 0)) := by rw [e_M5]; exact mu_k (m_fr f4_a1 hMa2) f4_a1
  have f5_a2 : M5 a2 = some (eI y 520 (fun _ => 0)) := by rw [e_M5]; exact mu_s
  have d_a0_a2 : a0 ≠ a2 := m_fr f4_a0 hMa2
  have d_a1_a2 : a1 ≠ a2 := m_fr f4_a1 hMa2
  refine m_putF C w f5_m0 (v := .ref a2) (index := 16) (T := TX4) (N := 16) rfl hi_X4 tyX4 tyX4_ok nmX4 2 (by decide) (by decide +kernel) rfl hnm rfl (tyX4_ok 2 (by decide)) rfl rfl (Nat.le_of_ble_eq_true rfl) dX4_init_26 (fun H locs w => ?_)
  obtain ⟨M6, e_M6⟩ : ∃ z, z = mu M5 m0 (eO 3 [.ref a0, .ref a1, .ref a2, .null, .null, .null, .int 0, .int 0, .null, .null, .int 0, .null, .null, .int 0, .int 0, .null]) := ⟨_, rfl⟩
  have w : mS D S0 M6 F s H locs := by rw [e_M6]; exact w
  have f6_a0 : M6 a0 = some (eI y 12 (fun _ => 0)) := by rw [e_M6]; exact mu_k (m_ne f5_a0 f5_m0 (by first | exact ne_LT | exact ne_LI | exact ne_LH | exact ne_TL | exact ne_IL | exact ne_IH | exact ne_IT | exact ne_HL | exact ne_HI | exact ne_TI | exact ne_OA | exact ne_AO | (intro h; cases h))) f5_a0
  have f6_a1 : M6 a1 = some (eI y 12 (fun _ => 0)) := by rw [e_M6]; exact mu_k (m_ne f5_a1 f5_m0 (by first | exact ne_LT | exact ne_LI | exact ne_LH | exact ne_TL | exact ne_IL | exact ne_IH | exact ne_IT | exact ne_HL | exact ne_HI | exact ne_TI | exact ne_OA | exact ne_AO | (intro h; cases h))) f5_a1
  have f6_a2 : M6 a2 = some (eI y 520 (fun _ => 0)) := by rw [e_M6]; exact mu_k (m_ne f5_a2 f5_m0 (by first | exact ne_LT | exact ne_LI | exact ne_LH | exact ne_TL | exact ne_IL | exact ne_IH | exact ne_IT | exact ne_HL | exact ne_HI | exact ne_TI | exact ne_OA | exact ne_AO | (intro h; cases h))) f5_a2
  have f6_m0 : M6 m0 = some (eO 3 [.ref a0, .ref a1, .ref a2, .null, .null, .null, .int 0, .int 0, .null, .null, .int 0, .null, .null, .int 0, .int 0, .null]) := by rw [e_M6]; exact mu_s
  refine lv_aload_n hx hb dX4_init_29 rfl (lv_at hl 0 rfl) ?_
  refine lv_sipush (v := 520) hx hb dX4_init_30 (by decide) ?_
  refine m_newI C w (by decide +kernel) 520 rfl (by omega) (Nat.le_of_ble_eq_true rfl) (Nat.le_of_ble_eq_true rfl) dX4_init_33 (fun a3 H hMa3 hFa3 w => ?_)
  obtain ⟨M7, e_M7⟩ : ∃ z, z = mu M6 a3 (eI y 520 (fun _ => 0)) := ⟨_, rfl⟩
  rw [← e_M7] at w
  have f7_m0 : M7 m0 = some (eO 3 [.ref a0, .ref a1, .ref a2, .null, .null, .null, .int 0, .int 0, .null, .null, .int 0, .null, .null, .int 0, .int 0, .null]) := by rw [e_M7]; exact mu_k (m_fr f6_m0 hMa3) f6_m0
  have f7_a0 : M7 a0 = some (eI y 12 (fun _ => 0)) := by rw [e_M7]; exact mu_k (m_fr f6_a0 hMa3) f6_a0
  have f7_a1 : M7 a1 = some (eI y 12 (fun _ => 0)) := by rw [e_M7]; exact mu_k (m_fr f6_a1 hMa3) f6_a1
  have f7_a2 : M7 a2 = some (eI y 520 (fun _ => 0)) := by rw [e_M7]; exact mu_k (m_fr f6_a2 hMa3) f6_a2
  have f7_a3 : M7 a3 = some (eI y 520 (fun _ => 0)) := by rw [e_M7]; exact mu_s
  have d_a0_a3 : a0 ≠ a3 := m_fr f6_a0 hMa3
  have d_a1_a3 : a1 ≠ a3 := m_fr f6_a1 hMa3
  have d_a2_a3 : a2 ≠ a3 := m_fr f6_a2 hMa3
  refine m_putF C w f7_m0 (v := .ref a3) (index := 19) (T := TX4) (N := 16) rfl hi_X4 tyX4 tyX4_ok nmX4 3 (by decide) (by decide +kernel) rfl hnm rfl (tyX4_ok 3 (by decide)) rfl rfl (Nat.le_of_ble_eq_true rfl) dX4_init_35 (fun H locs w => ?_)
  obtain ⟨M8, e_M8⟩ : ∃ z, z = mu M7 m0 (eO 3 [.ref a0, .ref a1, .ref a2, .ref a3, .null, .null, .int 0, .int 0, .null, .null, .int 0, .null, .null, .int 0, .int 0, .null]) := ⟨_, rfl⟩
  have w : mS D S0 M8 F s H locs := by rw [e_M8]; exact w
  have f8_a0 : M8 a0 = some (eI y 12 (fun _ => 0)) := by rw [e_M8]; exact mu_k (m_ne f7_a0 f7_m0 (by first | exact ne_LT | exact ne_LI | exact ne_LH | exact ne_TL | exact ne_IL | exact ne_IH | exact ne_IT | exact ne_HL | exact ne_HI | exact ne_TI | exact ne_OA | exact ne_AO | (intro h; cases h))) f7_a0
  have f8_a1 : M8 a1 = some (eI y 12 (fun _ => 0)) := by rw [e_M8]; exact mu_k (m_ne f7_a1 f7_m0 (by first | exact ne_LT | exact ne_LI | exact ne_LH | exact ne_TL | exact ne_IL | exact ne_IH | exact ne_IT | exact ne_HL | exact ne_HI | exact ne_TI | exact ne_OA | exact ne_AO | (intro h; cases h))) f7_a1
  have f8_a2 : M8 a2 = some (eI y 520 (fun _ => 0)) := by rw [e_M8]; exact mu_k (m_ne f7_a2 f7_m0 (by first | exact ne_LT | exact ne_LI | exact ne_LH | exact ne_TL | exact ne_IL | exact ne_IH | exact ne_IT | exact ne_HL | exact ne_HI | exact ne_TI | exact ne_OA | exact ne_AO | (intro h; cases h))) f7_a2
  have f8_a3 : M8 a3 = some (eI y 520 (fun _ => 0)) := by rw [e_M8]; exact mu_k (m_ne f7_a3 f7_m0 (by first | exact ne_LT | exact ne_LI | exact ne_LH | exact ne_TL | exact ne_IL | exact ne_IH | exact ne_IT | exact ne_HL | exact ne_HI | exact ne_TI | exact ne_OA | exact ne_AO | (intro h; cases h))) f7_a3
  have f8_m0 : M8 m0 = some (eO 3 [.ref a0, .ref a1, .ref a2, .ref a3, .null, .null, .int 0, .int 0, .null, .null, .int 0, .null, .null, .int 0, .int 0, .null]) := by rw [e_M8]; exact mu_s
  refine lv_aload_n hx hb dX4_init_38 rfl (lv_at hl 0 rfl) ?_
  refine lv_sipush (v := 520) hx hb dX4_init_39 (by decide) ?_
  refine m_newI C w (by decide +kernel) 520 rfl (by omega) (Nat.le_of_ble_eq_true rfl) (Nat.le_of_ble_eq_true rfl) dX4_init_42 (fun a4 H hMa4 hFa4 w => ?_)
  obtain ⟨M9, e_M9⟩ : ∃ z, z = mu M8 a4 (eI y 520 (fun _ => 0)) := ⟨_, rfl⟩
  rw [← e_M9] at w
  have f9_m0 : M9 m0 = some (eO 3 [.ref a0, .ref a1, .ref a2, .ref a3, .null, .null, .int 0, .int 0, .null, .null, .int 0, .null, .null, .int 0, .int 0, .null]) := by rw [e_M9]; exact mu_k (m_fr f8_m0 hMa4) f8_m0
  have f9_a0 : M9 a0 = some (eI y 12 (fun _ => 0)) := by rw [e_M9]; exact mu_k (m_fr f8_a0 hMa4) f8_a0
  have f9_a1 : M9 a1 = some (eI y 12 (fun _ => 0)) := by rw [e_M9]; exact mu_k (m_fr f8_a1 hMa4) f8_a1
  have f9_a2 : M9 a2 = some (eI y 520 (fun _ => 0)) := by rw [e_M9]; exact mu_k (m_fr f8_a2 hMa4) f8_a2
  have f9_a3 : M9 a3 = some (eI y 520 (fun _ => 0)) := by rw [e_M9]; exact mu_k (m_fr f8_a3 hMa4) f8_a3
  have f9_a4 : M9 a4 = some (eI y 520 (fun _ => 0)) := by rw [e_M9]; exact mu_s
  have d_a0_a4 : a0 ≠ a4 := m_fr f8_a0 hMa4
  have d_a1_a4 : a1 ≠ a4 := m_fr f8_a1 hMa4
  have d_a2_a4 : a2 ≠ a4 := m_fr f8_a2 hMa4
  have d_a3_a4 : a3 ≠ a4 := m_fr f8_a3 hMa4
  refine m_putF C w f9_m0 (v := .ref a4) (index := 22) (T := TX4) (N := 16) rfl hi_X4 tyX4 tyX4_ok nmX4 4 (by decide) (by decide +kernel) rfl hnm rfl (tyX4_ok 4 (by decide)) rfl rfl (Nat.le_of_ble_eq_true rfl) dX4_init_44 (fun H locs w => ?_)
  obtain ⟨M10, e_M10⟩ : ∃ z, z = mu M9 m0 (eO 3 [.ref a0, .ref a1, .ref a2, .ref a3, .ref a4, .null, .int 0, .int 0, .null, .null, .int 0, .null, .null, .int 0, .int 0, .null]) := ⟨_, rfl⟩
  have w : mS D S0 M10 F s H locs := by rw [e_M10]; exact w
  have f10_a0 : M10 a0 = some (eI y 12 (fun _ => 0)) := by rw [e_M10]; exact mu_k (m_ne f9_a0 f9_m0 (by first | exact ne_LT | exact ne_LI | exact ne_LH | exact ne_TL | exact ne_IL | exact ne_IH | exact ne_IT | exact ne_HL | exact ne_HI | exact ne_TI | exact ne_OA | exact ne_AO | (intro h; cases h))) f9_a0
  have f10_a1 : M10 a1 = some (eI y 12 (fun _ => 0)) := by rw [e_M10]; exact mu_k (m_ne f9_a1 f9_m0 (by first | exact ne_LT | exact ne_LI | exact ne_LH | exact ne_TL | exact ne_IL | exact ne_IH | exact ne_IT | exact ne_HL | exact ne_HI | exact ne_TI | exact ne_OA | exact ne_AO | (intro h; cases h))) f9_a1
  have f10_a2 : M10 a2 = some (eI y 520 (fun _ => 0)) := by rw [e_M10]; exact mu_k (m_ne f9_a2 f9_m0 (by first | exact ne_LT | exact ne_LI | exact ne_LH | exact ne_TL | exact ne_IL | exact ne_IH | exact ne_IT | exact ne_HL | exact ne_HI | exact ne_TI | exact ne_OA | exact ne_AO | (intro h; cases h))) f9_a2
  have f10_a3 : M10 a3 = some (eI y 520 (fun _ => 0)) := by rw [e_M10]; exact mu_k (m_ne f9_a3 f9_m0 (by first | exact ne_LT | exact ne_LI | exact ne_LH | exact ne_TL | exact ne_IL | exact ne_IH | exact ne_IT | exact ne_HL | exact ne_HI | exact ne_TI | exact ne_OA | exact ne_AO | (intro h; cases h))) f9_a3
  have f10_a4 : M10 a4 = some (eI y 520 (fun _ => 0)) := by rw [e_M10]; exact mu_k (m_ne f9_a4 f9_m0 (by first | exact ne_LT | exact ne_LI | exact ne_LH | exact ne_TL | exact ne_IL | exact ne_IH | exact ne_IT | exact ne_HL | exact ne_HI | exact ne_TI | exact ne_OA | exact ne_AO | (intro h; cases h))) f9_a4
  have f10_m0 : M10 m0 = some (eO 3 [.ref a0, .ref a1, .ref a2, .ref a3, .ref a4, .null, .int 0, .int 0, .null, .null, .int 0, .null, .null, .int 0, .int 0, .null]) := by rw [e_M10]; exact mu_s
  refine lv_aload_n hx hb dX4_init_47 rfl (lv_at hl 0 rfl) ?_
  refine lv_ldc (v := 33000) hx hb C.2.2.2.1 (C.2.2.2.2.1 (.constant RX4 25 33000) (by decide +kernel)) dX4_init_48 ?_
  refine m_newL C w (by decide +kernel) 33000 rfl (by omega) (Nat.le_of_ble_eq_true rfl) (Nat.le_of_ble_eq_true rfl) dX4_init_50 (fun a5 H hMa5 hFa5 w => ?_)
  obtain ⟨M11, e_M11⟩ : ∃ z, z = mu M10 a5 (eL y 33000 (fun _ => 0)) := ⟨_, rfl⟩
  rw [← e_M11] at w
  have f11_m0 : M11 m0 = some (eO 3 [.ref a0, .ref a1, .ref a2, .ref a3, .ref a4, .null, .int 0, .int 0, .null, .null, .int 0, .null, .null, .int 0, .int 0, .null]) := by rw [e_M11]; exact mu_k (m_fr f10_m0 hMa5) f10_m0
  have f11_a0 : M11 a0 = some (eI y 12 (fun _ => 0)) := by rw [e_M11]; exact mu_k (m_fr f10_a0 hMa5) f10_a0
  have f11_a1 : M11 a1 = some (eI y 12 (fun _ => 0)) := by rw [e_M11]; exact mu_k (m_fr f10_a1 hMa5) f10_a1
  have f11_a2 : M11 a2 = some (eI y 520 (fun _ => 0)) := by rw [e_M11]; exact mu_k (m_fr f10_a2 hMa5) f10_a2
  have f11_a3 : M11 a3 = some (eI y 520 (fun _ => 0)) := by rw [e_M11]; exact mu_k (m_fr f10_a3 hMa5) f10_a3
  have f11_a4 : M11 a4 = some (eI y 520 (fun _ => 0)) := by rw [e_M11]; exact mu_k (m_fr f10_a4 hMa5) f10_a4
  have f11_a5 : M11 a5 = some (eL y 33000 (fun _ => 0)) := by rw [e_M11]; exact mu_s
  have d_a0_a5 : a0 ≠ a5 := m_fr f10_a0 hMa5
  have d_a1_a5 : a1 ≠ a5 := m_fr f10_a1 hMa5
  have d_a2_a5 : a2 ≠ a5 := m_fr f10_a2 hMa5
  have d_a3_a5 : a3 ≠ a5 := m_fr f10_a3 hMa5
  have d_a4_a5 : a4 ≠ a5 := m_fr f10_a4 hMa5
  refine m_putF C w f11_m0 (v := .ref a5) (index := 26) (T := TX4) (N := 16) rfl hi_X4 tyX4 tyX4_ok nmX4 5 (by decide) (by decide +kernel) rfl hnm rfl (tyX4_ok 5 (by decide)) rfl rfl (Nat.le_of_ble_eq_true rfl) dX4_init_52 (fun H locs w => ?_)
  obtain ⟨M12, e_M12⟩ : ∃ z, z = mu M11 m0 (eO 3 [.ref a0, .ref a1, .ref a2, .ref a3, .ref a4, .ref a5, .int 0, .int 0, .null, .null, .int 0, .null, .null, .int 0, .int 0, .null]) := ⟨_, rfl⟩
  have w : mS D S0 M12 F s H locs := by rw [e_M12]; exact w
  have f12_a0 : M12 a0 = some (eI y 12 (fun _ => 0)) := by rw [e_M12]; exact mu_k (m_ne f11_a0 f11_m0 (by first | exact ne_LT | exact ne_LI | exact ne_LH | exact ne_TL | exact ne_IL | exact ne_IH | exact ne_IT | exact ne_HL | exact ne_HI | exact ne_TI | exact ne_OA | exact ne_AO | (intro h; cases h))) f11_a0
  have f12_a1 : M12 a1 = some (eI y 12 (fun _ => 0)) := by rw [e_M12]; exact mu_k (m_ne f11_a1 f11_m0 (by first | exact ne_LT | exact ne_LI | exact ne_LH | exact ne_TL | exact ne_IL | exact ne_IH | exact ne_IT | exact ne_HL | exact ne_HI | exact ne_TI | exact ne_OA | exact ne_AO | (intro h; cases h))) f11_a1
  have f12_a2 : M12 a2 = some (eI y 520 (fun _ => 0)) := by rw [e_M12]; exact mu_k (m_ne f11_a2 f11_m0 (by first | exact ne_LT | exact ne_LI | exact ne_LH | exact ne_TL | exact ne_IL | exact ne_IH | exact ne_IT | exact ne_HL | exact ne_HI | exact ne_TI | exact ne_OA | exact ne_AO | (intro h; cases h))) f11_a2
  have f12_a3 : M12 a3 = some (eI y 520 (fun _ => 0)) := by rw [e_M12]; exact mu_k (m_ne f11_a3 f11_m0 (by first | exact ne_LT | exact ne_LI | exact ne_LH | exact ne_TL | exact ne_IL | exact ne_IH | exact ne_IT | exact ne_HL | exact ne_HI | exact ne_TI | exact ne_OA | exact ne_AO | (intro h; cases h))) f11_a3
  have f12_a4 : M12 a4 = some (eI y 520 (fun _ => 0)) := by rw [e_M12]; exact mu_k (m_ne f11_a4 f11_m0 (by first | exact ne_LT | exact ne_LI | exact ne_LH | exact ne_TL | exact ne_IL | exact ne_IH | exact ne_IT | exact ne_HL | exact ne_HI | exact ne_TI | exact ne_OA | exact ne_AO | (intro h; cases h))) f11_a4
  have f12_a5 : M12 a5 = some (eL y 33000 (fun _ => 0)) := by rw [e_M12]; exact mu_k (m_ne f11_a5 f11_m0 (by first | exact ne_LT | exact ne_LI | exact ne_LH | exact ne_TL | exact ne_IL | exact ne_IH | exact ne_IT | exact ne_HL | exact ne_HI | exact ne_TI | exact ne_OA | exact ne_AO | (intro h; cases h))) f11_a5
  have f12_m0 : M12 m0 = some (eO 3 [.ref a0, .ref a1, .ref a2, .ref a3, .ref a4, .ref a5, .int 0, .int 0, .null, .null, .int 0, .null, .null, .int 0, .int 0, .null]) := by rw [e_M12]; exact mu_s
  refine lv_aload_n hx hb dX4_init_55 rfl (lv_at hl 0 rfl) ?_
  refine lv_sipush (v := 520) hx hb dX4_init_56 (by decide) ?_
  refine m_newI C w (by decide +kernel) 520 rfl (by omega) (Nat.le_of_ble_eq_true rfl) (Nat.le_of_ble_eq_true rfl) dX4_init_59 (fun a6 H hMa6 hFa6 w => ?_)
  obtain ⟨M13, e_M13⟩ : ∃ z, z = mu M12 a6 (eI y 520 (fun _ => 0)) := ⟨_, rfl⟩
  rw [← e_M13] at w
  have f13_m0 : M13 m0 = some (eO 3 [.ref a0, .ref a1, .ref a2, .ref a3, .ref a4, .ref a5, .int 0, .int 0, .null, .null, .int 0, .null, .null, .int 0, .int 0, .null]) := by rw [e_M13]; exact mu_k (m_fr f12_m0 hMa6) f12_m0
  have f13_a0 : M13 a0 = some (eI y 12 (fun _ => 0)) := by rw [e_M13]; exact mu_k (m_fr f12_a0 hMa6) f12_a0
  have f13_a1 : M13 a1 = some (eI y 12 (fun _ => 0)) := by rw [e_M13]; exact mu_k (m_fr f12_a1 hMa6) f12_a1
  have f13_a2 : M13 a2 = some (eI y 520 (fun _ => 0)) := by rw [e_M13]; exact mu_k (m_fr f12_a2 hMa6) f12_a2
  have f13_a3 : M13 a3 = some (eI y 520 (fun _ => 0)) := by rw [e_M13]; exact mu_k (m_fr f12_a3 hMa6) f12_a3
  have f13_a4 : M13 a4 = some (eI y 520 (fun _ => 0)) := by rw [e_M13]; exact mu_k (m_fr f12_a4 hMa6) f12_a4
  have f13_a5 : M13 a5 = some (eL y 33000 (fun _ => 0)) := by rw [e_M13]; exact mu_k (m_fr f12_a5 hMa6) f12_a5
  have f13_a6 : M13 a6 = some (eI y 520 (fun _ => 0)) := by rw [e_M13]; exact mu_s
  have d_a0_a6 : a0 ≠ a6 := m_fr f12_a0 hMa6
  have d_a1_a6 : a1 ≠ a6 := m_fr f12_a1 hMa6
  have d_a2_a6 : a2 ≠ a6 := m_fr f12_a2 hMa6
  have d_a3_a6 : a3 ≠ a6 := m_fr f12_a3 hMa6
  have d_a4_a6 : a4 ≠ a6 := m_fr f12_a4 hMa6
  have d_a5_a6 : a5 ≠ a6 := m_fr f12_a5 hMa6
  refine m_putF C w f13_m0 (v := .ref a6) (index := 30) (T := TX4) (N := 16) rfl hi_X4 tyX4 tyX4_ok nmX4 8 (by decide) (by decide +kernel) rfl hnm rfl (tyX4_ok 8 (by decide)) rfl rfl (Nat.le_of_ble_eq_true rfl) dX4_init_61 (fun H locs w => ?_)
  obtain ⟨M14, e_M14⟩ : ∃ z, z = mu M13 m0 (eO 3 [.ref a0, .ref a1, .ref a2, .ref a3, .ref a4, .ref a5, .int 0, .int 0, .ref a6, .null, .int 0, .null, .null, .int 0, .int 0, .null]) := ⟨_, rfl⟩
  have w : mS D S0 M14 F s H locs := by rw [e_M14]; exact w
  have f14_a0 : M14 a0 = some (eI y 12 (fun _ => 0)) := by rw [e_M14]; exact mu_k (m_ne f13_a0 f13_m0 (by first | exact ne_LT | exact ne_LI | exact ne_LH | exact ne_TL | exact ne_IL | exact ne_IH | exact ne_IT | exact ne_HL | exact ne_HI | exact ne_TI | exact ne_OA | exact ne_AO | (intro h; cases h))) f13_a0
  have f14_a1 : M14 a1 = some (eI y 12 (fun _ => 0)) := by rw [e_M14]; exact mu_k (m_ne f13_a1 f13_m0 (by first | exact ne_LT | exact ne_LI | exact ne_LH | exact ne_TL | exact ne_IL | exact ne_IH | exact ne_IT | exact ne_HL | exact ne_HI | exact ne_TI | exact ne_OA | exact ne_AO | (intro h; cases h))) f13_a1
  have f14_a2 : M14 a2 = some (eI y 520 (fun _ => 0)) := by rw [e_M14]; exact mu_k (m_ne f13_a2 f13_m0 (by first | exact ne_LT | exact ne_LI | exact ne_LH | exact ne_TL | exact ne_IL | exact ne_IH | exact ne_IT | exact ne_HL | exact ne_HI | exact ne_TI | exact ne_OA | exact ne_AO | (intro h; cases h))) f13_a2
  have f14_a3 : M14 a3 = some (eI y 520 (fun _ => 0)) := by rw [e_M14]; exact mu_k (m_ne f13_a3 f13_m0 (by first | exact ne_LT | exact ne_LI | exact ne_LH | exact ne_TL | exact ne_IL | exact ne_IH | exact ne_IT | exact ne_HL | exact ne_HI | exact ne_TI | exact ne_OA | exact ne_AO | (intro h; cases h))) f13_a3
  have f14_a4 : M14 a4 = some (eI y 520 (fun _ => 0)) := by rw [e_M14]; exact mu_k (m_ne f13_a4 f13_m0 (by first | exact ne_LT | exact ne_LI | exact ne_LH | exact ne_TL | exact ne_IL | exact ne_IH | exact ne_IT | exact ne_HL | exact ne_HI | exact ne_TI | exact ne_OA | exact ne_AO | (intro h; cases h))) f13_a4
  have f14_a5 : M14 a5 = some (eL y 33000 (fun _ => 0)) := by rw [e_M14]; exact mu_k (m_ne f13_a5 f13_m0 (by first | exact ne_LT | exact ne_LI | exact ne_LH | exact ne_TL | exact ne_IL | exact ne_IH | exact ne_IT | exact ne_HL | exact ne_HI | exact ne_TI | exact ne_OA | exact ne_AO | (intro h; cases h))) f13_a5
  have f14_a6 : M14 a6 = some (eI y 520 (fun _ => 0)) := by rw [e_M14]; exact mu_k (m_ne f13_a6 f13_m0 (by first | exact ne_LT | exact ne_LI | exact ne_LH | exact ne_TL | exact ne_IL | exact ne_IH | exact ne_IT | exact ne_HL | exact ne_HI | exact ne_TI | exact ne_OA | exact ne_AO | (intro h; cases h))) f13_a6
  have f14_m0 : M14 m0 = some (eO 3 [.ref a0, .ref a1, .ref a2, .ref a3, .ref a4, .ref a5, .int 0, .int 0, .ref a6, .null, .int 0, .null, .null, .int 0, .int 0, .null]) := by rw [e_M14]; exact mu_s
  refine lv_aload_n hx hb dX4_init_64 rfl (lv_at hl 0 rfl) ?_
  refine lv_sipush (v := 520) hx hb dX4_init_65 (by decide) ?_
  refine m_newI C w (by decide +kernel) 520 rfl (by omega) (Nat.le_of_ble_eq_true rfl) (Nat.le_of_ble_eq_true rfl) dX4_init_68 (fun a7 H hMa7 hFa7 w => ?_)
  obtain ⟨M15, e_M15⟩ : ∃ z, z = mu M14 a7 (eI y 520 (fun _ => 0)) := ⟨_, rfl⟩
  rw [← e_M15] at w
  have f15_m0 : M15 m0 = some (eO 3 [.ref a0, .ref a1, .ref a2, .ref a3, .ref a4, .ref a5, .int 0, .int 0, .ref a6, .null, .int 0, .null, .null, .int 0, .int 0, .null]) := by rw [e_M15]; exact mu_k (m_fr f14_m0 hMa7) f14_m0
  have f15_a0 : M15 a0 = some (eI y 12 (fun _ => 0)) := by rw [e_M15]; exact mu_k (m_fr f14_a0 hMa7) f14_a0
  have f15_a1 : M15 a1 = some (eI y 12 (fun _ => 0)) := by rw [e_M15]; exact mu_k (m_fr f14_a1 hMa7) f14_a1
  have f15_a2 : M15 a2 = some (eI y 520 (fun _ => 0)) := by rw [e_M15]; exact mu_k (m_fr f14_a2 hMa7) f14_a2
  have f15_a3 : M15 a3 = some (eI y 520 (fun _ => 0)) := by rw [e_M15]; exact mu_k (m_fr f14_a3 hMa7) f14_a3
  have f15_a4 : M15 a4 = some (eI y 520 (fun _ => 0)) := by rw [e_M15]; exact mu_k (m_fr f14_a4 hMa7) f14_a4
  have f15_a5 : M15 a5 = some (eL y 33000 (fun _ => 0)) := by rw [e_M15]; exact mu_k (m_fr f14_a5 hMa7) f14_a5
  have f15_a6 : M15 a6 = some (eI y 520 (fun _ => 0)) := by rw [e_M15]; exact mu_k (m_fr f14_a6 hMa7) f14_a6
  have f15_a7 : M15 a7 = some (eI y 520 (fun _ => 0)) := by rw [e_M15]; exact mu_s
  have d_a0_a7 : a0 ≠ a7 := m_fr f14_a0 hMa7
  have d_a1_a7 : a1 ≠ a7 := m_fr f14_a1 hMa7
  have d_a2_a7 : a2 ≠ a7 := m_fr f14_a2 hMa7
  have d_a3_a7 : a3 ≠ a7 := m_fr f14_a3 hMa7
  have d_a4_a7 : a4 ≠ a7 := m_fr f14_a4 hMa7
  have d_a5_a7 : a5 ≠ a7 := m_fr f14_a5 hMa7
  have d_a6_a7 : a6 ≠ a7 := m_fr f14_a6 hMa7
  refine m_putF C w f15_m0 (v := .ref a7) (index := 33) (T := TX4) (N := 16) rfl hi_X4 tyX4 tyX4_ok nmX4 9 (by decide) (by decide +kernel) rfl hnm rfl (tyX4_ok 9 (by decide)) rfl rfl (Nat.le_of_ble_eq_true rfl) dX4_init_70 (fun H locs w => ?_)
  obtain ⟨M16, e_M16⟩ : ∃ z, z = mu M15 m0 (eO 3 [.ref a0, .ref a1, .ref a2, .ref a3, .ref a4, .ref a5, .int 0, .int 0, .ref a6, .ref a7, .int 0, .null, .null, .int 0, .int 0, .null]) := ⟨_, rfl⟩
  have w : mS D S0 M16 F s H locs := by rw [e_M16]; exact w
  have f16_a0 : M16 a0 = some (eI y 12 (fun _ => 0)) := by rw [e_M16]; exact mu_k (m_ne f15_a0 f15_m0 (by first | exact ne_LT | exact ne_LI | exact ne_LH | exact ne_TL | exact ne_IL | exact ne_IH | exact ne_IT | exact ne_HL | exact ne_HI | exact ne_TI | exact ne_OA | exact ne_AO | (intro h; cases h))) f15_a0
  have f16_a1 : M16 a1 = some (eI y 12 (fun _ => 0)) := by rw [e_M16]; exact mu_k (m_ne f15_a1 f15_m0 (by first | exact ne_LT | exact ne_LI | exact ne_LH | exact ne_TL | exact ne_IL | exact ne_IH | exact ne_IT | exact ne_HL | exact ne_HI | exact ne_TI | exact ne_OA | exact ne_AO | (intro h; cases h))) f15_a1
  have f16_a2 : M16 a2 = some (eI y 520 (fun _ => 0)) := by rw [e_M16]; exact mu_k (m_ne f15_a2 f15_m0 (by first | exact ne_LT | exact ne_LI | exact ne_LH | exact ne_TL | exact ne_IL | exact ne_IH | exact ne_IT | exact ne_HL | exact ne_HI | exact ne_TI | exact ne_OA | exact ne_AO | (intro h; cases h))) f15_a2
  have f16_a3 : M16 a3 = some (eI y 520 (fun _ => 0)) := by rw [e_M16]; exact mu_k (m_ne f15_a3 f15_m0 (by first | exact ne_LT | exact ne_LI | exact ne_LH | exact ne_TL | exact ne_IL | exact ne_IH | exact ne_IT | exact ne_HL | exact ne_HI | exact ne_TI | exact ne_OA | exact ne_AO | (intro h; cases h))) f15_a3
  have f16_a4 : M16 a4 = some (eI y 520 (fun _ => 0)) := by rw [e_M16]; exact mu_k (m_ne f15_a4 f15_m0 (by first | exact ne_LT | exact ne_LI | exact ne_LH | exact ne_TL | exact ne_IL | exact ne_IH | exact ne_IT | exact ne_HL | exact ne_HI | exact ne_TI | exact ne_OA | exact ne_AO | (intro h; cases h))) f15_a4
  have f16_a5 : M16 a5 = some (eL y 33000 (fun _ => 0)) := by rw [e_M16]; exact mu_k (m_ne f15_a5 f15_m0 (by first | exact ne_LT | exact ne_LI | exact ne_LH | exact ne_TL | exact ne_IL | exact ne_IH | exact ne_IT | exact ne_HL | exact ne_HI | exact ne_TI | exact ne_OA | exact ne_AO | (intro h; cases h))) f15_a5
  have f16_a6 : M16 a6 = some (eI y 520 (fun _ => 0)) := by rw [e_M16]; exact mu_k (m_ne f15_a6 f15_m0 (by first | exact ne_LT | exact ne_LI | exact ne_LH | exact ne_TL | exact ne_IL | exact ne_IH | exact ne_IT | exact ne_HL | exact ne_HI | exact ne_TI | exact ne_OA | exact ne_AO | (intro h; cases h))) f15_a6
  have f16_a7 : M16 a7 = some (eI y 520 (fun _ => 0)) := by rw [e_M16]; exact mu_k (m_ne f15_a7 f15_m0 (by first | exact ne_LT | exact ne_LI | exact ne_LH | exact ne_TL | exact ne_IL | exact ne_IH | exact ne_IT | exact ne_HL | exact ne_HI | exact ne_TI | exact ne_OA | exact ne_AO | (intro h; cases h))) f15_a7
  have f16_m0 : M16 m0 = some (eO 3 [.ref a0, .ref a1, .ref a2, .ref a3, .ref a4, .ref a5, .int 0, .int 0, .ref a6, .ref a7, .int 0, .null, .null, .int 0, .int 0, .null]) := by rw [e_M16]; exact mu_s
  refine lv_aload_n hx hb dX4_init_73 rfl (lv_at hl 0 rfl) ?_
  refine lv_bipush (v := 64) hx hb dX4_init_74 (by decide) ?_
  refine m_newL C w (by decide +kernel) 64 rfl (by omega) (Nat.le_of_ble_eq_true rfl) (Nat.le_of_ble_eq_true rfl) dX4_init_76 (fun a8 H hMa8 hFa8 w => ?_)
  obtain ⟨M17, e_M17⟩ : ∃ z, z = mu M16 a8 (eL y 64 (fun _ => 0)) := ⟨_, rfl⟩
  rw [← e_M17] at w
  have f17_m0 : M17 m0 = some (eO 3 [.ref a0, .ref a1, .ref a2, .ref a3, .ref a4, .ref a5, .int 0, .int 0, .ref a6, .ref a7, .int 0, .null, .null, .int 0, .int 0, .null]) := by rw [e_M17]; exact mu_k (m_fr f16_m0 hMa8) f16_m0
  have f17_a0 : M17 a0 = some (eI y 12 (fun _ => 0)) := by rw [e_M17]; exact mu_k (m_fr f16_a0 hMa8) f16_a0
  have f17_a1 : M17 a1 = some (eI y 12 (fun _ => 0)) := by rw [e_M17]; exact mu_k (m_fr f16_a1 hMa8) f16_a1
  have f17_a2 : M17 a2 = some (eI y 520 (fun _ => 0)) := by rw [e_M17]; exact mu_k (m_fr f16_a2 hMa8) f16_a2
  have f17_a3 : M17 a3 = some (eI y 520 (fun _ => 0)) := by rw [e_M17]; exact mu_k (m_fr f16_a3 hMa8) f16_a3
  have f17_a4 : M17 a4 = some (eI y 520 (fun _ => 0)) := by rw [e_M17]; exact mu_k (m_fr f16_a4 hMa8) f16_a4
  have f17_a5 : M17 a5 = some (eL y 33000 (fun _ => 0)) := by rw [e_M17]; exact mu_k (m_fr f16_a5 hMa8) f16_a5
  have f17_a6 : M17 a6 = some (eI y 520 (fun _ => 0)) := by rw [e_M17]; exact mu_k (m_fr f16_a6 hMa8) f16_a6
  have f17_a7 : M17 a7 = some (eI y 520 (fun _ => 0)) := by rw [e_M17]; exact mu_k (m_fr f16_a7 hMa8) f16_a7
  have f17_a8 : M17 a8 = some (eL y 64 (fun _ => 0)) := by rw [e_M17]; exact mu_s
  have d_a0_a8 : a0 ≠ a8 := m_fr f16_a0 hMa8
  have d_a1_a8 : a1 ≠ a8 := m_fr f16_a1 hMa8
  have d_a2_a8 : a2 ≠ a8 := m_fr f16_a2 hMa8
  have d_a3_a8 : a3 ≠ a8 := m_fr f16_a3 hMa8
  have d_a4_a8 : a4 ≠ a8 := m_fr f16_a4 hMa8
  have d_a5_a8 : a5 ≠ a8 := m_fr f16_a5 hMa8
  have d_a6_a8 : a6 ≠ a8 := m_fr f16_a6 hMa8
  have d_a7_a8 : a7 ≠ a8 := m_fr f16_a7 hMa8
  refine m_putF C w f17_m0 (v := .ref a8) (index := 36) (T := TX4) (N := 16) rfl hi_X4 tyX4 tyX4_ok nmX4 11 (by decide) (by decide +kernel) rfl hnm rfl (tyX4_ok 11 (by decide)) rfl rfl (Nat.le_of_ble_eq_true rfl) dX4_init_78 (fun H locs w => ?_)
  obtain ⟨M18, e_M18⟩ : ∃ z, z = mu M17 m0 (eO 3 [.ref a0, .ref a1, .ref a2, .ref a3, .ref a4, .ref a5, .int 0, .int 0, .ref a6, .ref a7, .int 0, .ref a8, .null, .int 0, .int 0, .null]) := ⟨_, rfl⟩
  have w : mS D S0 M18 F s H locs := by rw [e_M18]; exact w
  have f18_a0 : M18 a0 = some (eI y 12 (fun _ => 0)) := by rw [e_M18]; exact mu_k (m_ne f17_a0 f17_m0 (by first | exact ne_LT | exact ne_LI | exact ne_LH | exact ne_TL | exact ne_IL | exact ne_IH | exact ne_IT | exact ne_HL | exact ne_HI | exact ne_TI | exact ne_OA | exact ne_AO | (intro h; cases h))) f17_a0
  have f18_a1 : M18 a1 = some (eI y 12 (fun _ => 0)) := by rw [e_M18]; exact mu_k (m_ne f17_a1 f17_m0 (by first | exact ne_LT | exact ne_LI | exact ne_LH | exact ne_TL | exact ne_IL | exact ne_IH | exact ne_IT | exact ne_HL | exact ne_HI | exact ne_TI | exact ne_OA | exact ne_AO | (intro h; cases h))) f17_a1
  have f18_a2 : M18 a2 = some (eI y 520 (fun _ => 0)) := by rw [e_M18]; exact mu_k (m_ne f17_a2 f17_m0 (by first | exact ne_LT | exact ne_LI | exact ne_LH | exact ne_TL | exact ne_IL | exact ne_IH | exact ne_IT | exact ne_HL | exact ne_HI | exact ne_TI | exact ne_OA | exact ne_AO | (intro h; cases h))) f17_a2
  have f18_a3 : M18 a3 = some (eI y 520 (fun _ => 0)) := by rw [e_M18]; exact mu_k (m_ne f17_a3 f17_m0 (by first | exact ne_LT | exact ne_LI | exact ne_LH | exact ne_TL | exact ne_IL | exact ne_IH | exact ne_IT | exact ne_HL | exact ne_HI | exact ne_TI | exact ne_OA | exact ne_AO | (intro h; cases h))) f17_a3
  have f18_a4 : M18 a4 = some (eI y 520 (fun _ => 0)) := by rw [e_M18]; exact mu_k (m_ne f17_a4 f17_m0 (by first | exact ne_LT | exact ne_LI | exact ne_LH | exact ne_TL | exact ne_IL | exact ne_IH | exact ne_IT | exact ne_HL | exact ne_HI | exact ne_TI | exact ne_OA | exact ne_AO | (intro h; cases h))) f17_a4
  have f18_a5 : M18 a5 = some (eL y 33000 (fun _ => 0)) := by rw [e_M18]; exact mu_k (m_ne f17_a5 f17_m0 (by first | exact ne_LT | exact ne_LI | exact ne_LH | exact ne_TL | exact ne_IL | exact ne_IH | exact ne_IT | exact ne_HL | exact ne_HI | exact ne_TI | exact ne_OA | exact ne_AO | (intro h; cases h))) f17_a5
  have f18_a6 : M18 a6 = some (eI y 520 (fun _ => 0)) := by rw [e_M18]; exact mu_k (m_ne f17_a6 f17_m0 (by first | exact ne_LT | exact ne_LI | exact ne_LH | exact ne_TL | exact ne_IL | exact ne_IH | exact ne_IT | exact ne_HL | exact ne_HI | exact ne_TI | exact ne_OA | exact ne_AO | (intro h; cases h))) f17_a6
  have f18_a7 : M18 a7 = some (eI y 520 (fun _ => 0)) := by rw [e_M18]; exact mu_k (m_ne f17_a7 f17_m0 (by first | exact ne_LT | exact ne_LI | exact ne_LH | exact ne_TL | exact ne_IL | exact ne_IH | exact ne_IT | exact ne_HL | exact ne_HI | exact ne_TI | exact ne_OA | exact ne_AO | (intro h; cases h))) f17_a7
  have f18_a8 : M18 a8 = some (eL y 64 (fun _ => 0)) := by rw [e_M18]; exact mu_k (m_ne f17_a8 f17_m0 (by first | exact ne_LT | exact ne_LI | exact ne_LH | exact ne_TL | exact ne_IL | exact ne_IH | exact ne_IT | exact ne_HL | exact ne_HI | exact ne_TI | exact ne_OA | exact ne_AO | (intro h; cases h))) f17_a8
  have f18_m0 : M18 m0 = some (eO 3 [.ref a0, .ref a1, .ref a2, .ref a3, .ref a4, .ref a5, .int 0, .int 0, .ref a6, .ref a7, .int 0, .ref a8, .null, .int 0, .int 0, .null]) := by rw [e_M18]; exact mu_s
  refine lv_aload_n hx hb dX4_init_81 rfl (lv_at hl 0 rfl) ?_
  refine lv_bipush (v := 64) hx hb dX4_init_82 (by decide) ?_
  refine m_newL C w (by decide +kernel) 64 rfl (by omega) (Nat.le_of_ble_eq_true rfl) (Nat.le_of_ble_eq_true rfl) dX4_init_84 (fun a9 H hMa9 hFa9 w => ?_)
  obtain ⟨M19, e_M19⟩ : ∃ z, z = mu M18 a9 (eL y 64 (fun _ => 0)) := ⟨_, rfl⟩
  rw [← e_M19] at w
  have f19_m0 : M19 m0 = some (eO 3 [.ref a0, .ref a1, .ref a2, .ref a3, .ref a4, .ref a5, .int 0, .int 0, .ref a6, .ref a7, .int 0, .ref a8, .null, .int 0, .int 0, .null]) := by rw [e_M19]; exact mu_k (m_fr f18_m0 hMa9) f18_m0
  have f19_a0 : M19 a0 = some (eI y 12 (fun _ => 0)) := by rw [e_M19]; exact mu_k (m_fr f18_a0 hMa9) f18_a0
  have f19_a1 : M19 a1 = some (eI y 12 (fun _ => 0)) := by rw [e_M19]; exact mu_k (m_fr f18_a1 hMa9) f18_a1
  have f19_a2 : M19 a2 = some (eI y 520 (fun _ => 0)) := by rw [e_M19]; exact mu_k (m_fr f18_a2 hMa9) f18_a2
  have f19_a3 : M19 a3 = some (eI y 520 (fun _ => 0)) := by rw [e_M19]; exact mu_k (m_fr f18_a3 hMa9) f18_a3
  have f19_a4 : M19 a4 = some (eI y 520 (fun _ => 0)) := by rw [e_M19]; exact mu_k (m_fr f18_a4 hMa9) f18_a4
  have f19_a5 : M19 a5 = some (eL y 33000 (fun _ => 0)) := by rw [e_M19]; exact mu_k (m_fr f18_a5 hMa9) f18_a5
  have f19_a6 : M19 a6 = some (eI y 520 (fun _ => 0)) := by rw [e_M19]; exact mu_k (m_fr f18_a6 hMa9) f18_a6
  have f19_a7 : M19 a7 = some (eI y 520 (fun _ => 0)) := by rw [e_M19]; exact mu_k (m_fr f18_a7 hMa9) f18_a7
  have f19_a8 : M19 a8 = some (eL y 64 (fun _ => 0)) := by rw [e_M19]; exact mu_k (m_fr f18_a8 hMa9) f18_a8
  have f19_a9 : M19 a9 = some (eL y 64 (fun _ => 0)) := by rw [e_M19]; exact mu_s
  have d_a0_a9 : a0 ≠ a9 := m_fr f18_a0 hMa9
  have d_a1_a9 : a1 ≠ a9 := m_fr f18_a1 hMa9
  have d_a2_a9 : a2 ≠ a9 := m_fr f18_a2 hMa9
  have d_a3_a9 : a3 ≠ a9 := m_fr f18_a3 hMa9
  have d_a4_a9 : a4 ≠ a9 := m_fr f18_a4 hMa9
  have d_a5_a9 : a5 ≠ a9 := m_fr f18_a5 hMa9
  have d_a6_a9 : a6 ≠ a9 := m_fr f18_a6 hMa9
  have d_a7_a9 : a7 ≠ a9 := m_fr f18_a7 hMa9
  have d_a8_a9 : a8 ≠ a9 := m_fr f18_a8 hMa9
  refine m_putF C w f19_m0 (v := .ref a9) (index := 39) (T := TX4) (N := 16) rfl hi_X4 tyX4 tyX4_ok nmX4 12 (by decide) (by decide +kernel) rfl hnm rfl (tyX4_ok 12 (by decide)) rfl rfl (Nat.le_of_ble_eq_true rfl) dX4_init_86 (fun H locs w => ?_)
  obtain ⟨M20, e_M20⟩ : ∃ z, z = mu M19 m0 (eO 3 [.ref a0, .ref a1, .ref a2, .ref a3, .ref a4, .ref a5, .int 0, .int 0, .ref a6, .ref a7, .int 0, .ref a8, .ref a9, .int 0, .int 0, .null]) := ⟨_, rfl⟩
  have w : mS D S0 M20 F s H locs := by rw [e_M20]; exact w
  have f20_a0 : M20 a0 = some (eI y 12 (fun _ => 0)) := by rw [e_M20]; exact mu_k (m_ne f19_a0 f19_m0 (by first | exact ne_LT | exact ne_LI | exact ne_LH | exact ne_TL | exact ne_IL | exact ne_IH | exact ne_IT | exact ne_HL | exact ne_HI | exact ne_TI | exact ne_OA | exact ne_AO | (intro h; cases h))) f19_a0
  have f20_a1 : M20 a1 = some (eI y 12 (fun _ => 0)) := by rw [e_M20]; exact mu_k (m_ne f19_a1 f19_m0 (by first | exact ne_LT | exact ne_LI | exact ne_LH | exact ne_TL | exact ne_IL | exact ne_IH | exact ne_IT | exact ne_HL | exact ne_HI | exact ne_TI | exact ne_OA | exact ne_AO | (intro h; cases h))) f19_a1
  have f20_a2 : M20 a2 = some (eI y 520 (fun _ => 0)) := by rw [e_M20]; exact mu_k (m_ne f19_a2 f19_m0 (by first | exact ne_LT | exact ne_LI | exact ne_LH | exact ne_TL | exact ne_IL | exact ne_IH | exact ne_IT | exact ne_HL | exact ne_HI | exact ne_TI | exact ne_OA | exact ne_AO | (intro h; cases h))) f19_a2
  have f20_a3 : M20 a3 = some (eI y 520 (fun _ => 0)) := by rw [e_M20]; exact mu_k (m_ne f19_a3 f19_m0 (by first | exact ne_LT | exact ne_LI | exact ne_LH | exact ne_TL | exact ne_IL | exact ne_IH | exact ne_IT | exact ne_HL | exact ne_HI | exact ne_TI | exact ne_OA | exact ne_AO | (intro h; cases h))) f19_a3
  have f20_a4 : M20 a4 = some (eI y 520 (fun _ => 0)) := by rw [e_M20]; exact mu_k (m_ne f19_a4 f19_m0 (by first | exact ne_LT | exact ne_LI | exact ne_LH | exact ne_TL | exact ne_IL | exact ne_IH | exact ne_IT | exact ne_HL | exact ne_HI | exact ne_TI | exact ne_OA | exact ne_AO | (intro h; cases h))) f19_a4
  have f20_a5 : M20 a5 = some (eL y 33000 (fun _ => 0)) := by rw [e_M20]; exact mu_k (m_ne f19_a5 f19_m0 (by first | exact ne_LT | exact ne_LI | exact ne_LH | exact ne_TL | exact ne_IL | exact ne_IH | exact ne_IT | exact ne_HL | exact ne_HI | exact ne_TI | exact ne_OA | exact ne_AO | (intro h; cases h))) f19_a5
  have f20_a6 : M20 a6 = some (eI y 520 (fun _ => 0)) := by rw [e_M20]; exact mu_k (m_ne f19_a6 f19_m0 (by first | exact ne_LT | exact ne_LI | exact ne_LH | exact ne_TL | exact ne_IL | exact ne_IH | exact ne_IT | exact ne_HL | exact ne_HI | exact ne_TI | exact ne_OA | exact ne_AO | (intro h; cases h))) f19_a6
  have f20_a7 : M20 a7 = some (eI y 520 (fun _ => 0)) := by rw [e_M20]; exact mu_k (m_ne f19_a7 f19_m0 (by first | exact ne_LT | exact ne_LI | exact ne_LH | exact ne_TL | exact ne_IL | exact ne_IH | exact ne_IT | exact ne_HL | exact ne_HI | exact ne_TI | exact ne_OA | exact ne_AO | (intro h; cases h))) f19_a7
  have f20_a8 : M20 a8 = some (eL y 64 (fun _ => 0)) := by rw [e_M20]; exact mu_k (m_ne f19_a8 f19_m0 (by first | exact ne_LT | exact ne_LI | exact ne_LH | exact ne_TL | exact ne_IL | exact ne_IH | exact ne_IT | exact ne_HL | exact ne_HI | exact ne_TI | exact ne_OA | exact ne_AO | (intro h; cases h))) f19_a8
  have f20_a9 : M20 a9 = some (eL y 64 (fun _ => 0)) := by rw [e_M20]; exact mu_k (m_ne f19_a9 f19_m0 (by first | exact ne_LT | exact ne_LI | exact ne_LH | exact ne_TL | exact ne_IL | exact ne_IH | exact ne_IT | exact ne_HL | exact ne_HI | exact ne_TI | exact ne_OA | exact ne_AO | (intro h; cases h))) f19_a9
  have f20_m0 : M20 m0 = some (eO 3 [.ref a0, .ref a1, .ref a2, .ref a3, .ref a4, .ref a5, .int 0, .int 0, .ref a6, .ref a7, .int 0, .ref a8, .ref a9, .int 0, .int 0, .null]) := by rw [e_M20]; exact mu_s
  refine lv_aload_n hx hb dX4_init_89 rfl (lv_at hl 0 rfl) ?_
  refine lv_iconst (v := (-1)) hx hb dX4_init_90 (by decide) ?_
  refine m_put C w f20_m0 (v := .int (-1)) (index := 42) (T := TX4) (N := 16) rfl hi_X4 tyX4 tyX4_ok nmX4 13 (by decide) (by decide +kernel) rfl (tyX4_ok 13 (by decide)) rfl rfl (Nat.le_of_ble_eq_true rfl) dX4_init_91 (fun H locs w => ?_)
  obtain ⟨M21, e_M21⟩ : ∃ z, z = mu M20 m0 (eO 3 [.ref a0, .ref a1, .ref a2, .ref a3, .ref a4, .ref a5, .int 0, .int 0, .ref a6, .ref a7, .int 0, .ref a8, .ref a9, .int (-1), .int 0, .null]) := ⟨_, rfl⟩
  have w : mS D S0 M21 F s H locs := by rw [e_M21]; exact w
  have f21_a0 : M21 a0 = some (eI y 12 (fun _ => 0)) := by rw [e_M21]; exact mu_k (m_ne f20_a0 f20_m0 (by first | exact ne_LT | exact ne_LI | exact ne_LH | exact ne_TL | exact ne_IL | exact ne_IH | exact ne_IT | exact ne_HL | exact ne_HI | exact ne_TI | exact ne_OA | exact ne_AO | (intro h; cases h))) f20_a0
  have f21_a1 : M21 a1 = some (eI y 12 (fun _ => 0)) := by rw [e_M21]; exact mu_k (m_ne f20_a1 f20_m0 (by first | exact ne_LT | exact ne_LI | exact ne_LH | exact ne_TL | exact ne_IL | exact ne_IH | exact ne_IT | exact ne_HL | exact ne_HI | exact ne_TI | exact ne_OA | exact ne_AO | (intro h; cases h))) f20_a1
  have f21_a2 : M21 a2 = some (eI y 520 (fun _ => 0)) := by rw [e_M21]; exact mu_k (m_ne f20_a2 f20_m0 (by first | exact ne_LT | exact ne_LI | exact ne_LH | exact ne_TL | exact ne_IL | exact ne_IH | exact ne_IT | exact ne_HL | exact ne_HI | exact ne_TI | exact ne_OA | exact ne_AO | (intro h; cases h))) f20_a2
  have f21_a3 : M21 a3 = some (eI y 520 (fun _ => 0)) := by rw [e_M21]; exact mu_k (m_ne f20_a3 f20_m0 (by first | exact ne_LT | exact ne_LI | exact ne_LH | exact ne_TL | exact ne_IL | exact ne_IH | exact ne_IT | exact ne_HL | exact ne_HI | exact ne_TI | exact ne_OA | exact ne_AO | (intro h; cases h))) f20_a3
  have f21_a4 : M21 a4 = some (eI y 520 (fun _ => 0)) := by rw [e_M21]; exact mu_k (m_ne f20_a4 f20_m0 (by first | exact ne_LT | exact ne_LI | exact ne_LH | exact ne_TL | exact ne_IL | exact ne_IH | exact ne_IT | exact ne_HL | exact ne_HI | exact ne_TI | exact ne_OA | exact ne_AO | (intro h; cases h))) f20_a4
  have f21_a5 : M21 a5 = some (eL y 33000 (fun _ => 0)) := by rw [e_M21]; exact mu_k (m_ne f20_a5 f20_m0 (by first | exact ne_LT | exact ne_LI | exact ne_LH | exact ne_TL | exact ne_IL | exact ne_IH | exact ne_IT | exact ne_HL | exact ne_HI | exact ne_TI | exact ne_OA | exact ne_AO | (intro h; cases h))) f20_a5
  have f21_a6 : M21 a6 = some (eI y 520 (fun _ => 0)) := by rw [e_M21]; exact mu_k (m_ne f20_a6 f20_m0 (by first | exact ne_LT | exact ne_LI | exact ne_LH | exact ne_TL | exact ne_IL | exact ne_IH | exact ne_IT | exact ne_HL | exact ne_HI | exact ne_TI | exact ne_OA | exact ne_AO | (intro h; cases h))) f20_a6
  have f21_a7 : M21 a7 = some (eI y 520 (fun _ => 0)) := by rw [e_M21]; exact mu_k (m_ne f20_a7 f20_m0 (by first | exact ne_LT | exact ne_LI | exact ne_LH | exact ne_TL | exact ne_IL | exact ne_IH | exact ne_IT | exact ne_HL | exact ne_HI | exact ne_TI | exact ne_OA | exact ne_AO | (intro h; cases h))) f20_a7
  have f21_a8 : M21 a8 = some (eL y 64 (fun _ => 0)) := by rw [e_M21]; exact mu_k (m_ne f20_a8 f20_m0 (by first | exact ne_LT | exact ne_LI | exact ne_LH | exact ne_TL | exact ne_IL | exact ne_IH | exact ne_IT | exact ne_HL | exact ne_HI | exact ne_TI | exact ne_OA | exact ne_AO | (intro h; cases h))) f20_a8
  have f21_a9 : M21 a9 = some (eL y 64 (fun _ => 0)) := by rw [e_M21]; exact mu_k (m_ne f20_a9 f20_m0 (by first | exact ne_LT | exact ne_LI | exact ne_LH | exact ne_TL | exact ne_IL | exact ne_IH | exact ne_IT | exact ne_HL | exact ne_HI | exact ne_TI | exact ne_OA | exact ne_AO | (intro h; cases h))) f20_a9
  have f21_m0 : M21 m0 = some (eO 3 [.ref a0, .ref a1, .ref a2, .ref a3, .ref a4, .ref a5, .int 0, .int 0, .ref a6, .ref a7, .int 0, .ref a8, .ref a9, .int (-1), .int 0, .null]) := by rw [e_M21]; exact mu_s
  refine lv_aload_n hx hb dX4_init_94 rfl (lv_at hl 0 rfl) ?_
  refine lv_bipush (v := 7) hx hb dX4_init_95 (by decide) ?_
  refine m_newI C w (by decide +kernel) 7 rfl (by omega) (Nat.le_of_ble_eq_true rfl) (Nat.le_of_ble_eq_true rfl) dX4_init_97 (fun a10 H hMa10 hFa10 w => ?_)
  obtain ⟨M22, e_M22⟩ : ∃ z, z = mu M21 a10 (eI y 7 (fun _ => 0)) := ⟨_, rfl⟩
  rw [← e_M22] at w
  have f22_m0 : M22 m0 = some (eO 3 [.ref a0, .ref a1, .ref a2, .ref a3, .ref a4, .ref a5, .int 0, .int 0, .ref a6, .ref a7, .int 0, .ref a8, .ref a9, .int (-1), .int 0, .null]) := by rw [e_M22]; exact mu_k (m_fr f21_m0 hMa10) f21_m0
  have f22_a0 : M22 a0 = some (eI y 12 (fun _ => 0)) := by rw [e_M22]; exact mu_k (m_fr f21_a0 hMa10) f21_a0
  have f22_a1 : M22 a1 = some (eI y 12 (fun _ => 0)) := by rw [e_M22]; exact mu_k (m_fr f21_a1 hMa10) f21_a1
  have f22_a2 : M22 a2 = some (eI y 520 (fun _ => 0)) := by rw [e_M22]; exact mu_k (m_fr f21_a2 hMa10) f21_a2
  have f22_a3 : M22 a3 = some (eI y 520 (fun _ => 0)) := by rw [e_M22]; exact mu_k (m_fr f21_a3 hMa10) f21_a3
  have f22_a4 : M22 a4 = some (eI y 520 (fun _ => 0)) := by rw [e_M22]; exact mu_k (m_fr f21_a4 hMa10) f21_a4
  have f22_a5 : M22 a5 = some (eL y 33000 (fun _ => 0)) := by rw [e_M22]; exact mu_k (m_fr f21_a5 hMa10) f21_a5
  have f22_a6 : M22 a6 = some (eI y 520 (fun _ => 0)) := by rw [e_M22]; exact mu_k (m_fr f21_a6 hMa10) f21_a6
  have f22_a7 : M22 a7 = some (eI y 520 (fun _ => 0)) := by rw [e_M22]; exact mu_k (m_fr f21_a7 hMa10) f21_a7
  have f22_a8 : M22 a8 = some (eL y 64 (fun _ => 0)) := by rw [e_M22]; exact mu_k (m_fr f21_a8 hMa10) f21_a8
  have f22_a9 : M22 a9 = some (eL y 64 (fun _ => 0)) := by rw [e_M22]; exact mu_k (m_fr f21_a9 hMa10) f21_a9
  have f22_a10 : M22 a10 = some (eI y 7 (fun _ => 0)) := by rw [e_M22]; exact mu_s
  have d_a0_a10 : a0 ≠ a10 := m_fr f21_a0 hMa10
  have d_a1_a10 : a1 ≠ a10 := m_fr f21_a1 hMa10
  have d_a2_a10 : a2 ≠ a10 := m_fr f21_a2 hMa10
  have d_a3_a10 : a3 ≠ a10 := m_fr f21_a3 hMa10
  have d_a4_a10 : a4 ≠ a10 := m_fr f21_a4 hMa10
  have d_a5_a10 : a5 ≠ a10 := m_fr f21_a5 hMa10
  have d_a6_a10 : a6 ≠ a10 := m_fr f21_a6 hMa10
  have d_a7_a10 : a7 ≠ a10 := m_fr f21_a7 hMa10
  have d_a8_a10 : a8 ≠ a10 := m_fr f21_a8 hMa10
  have d_a9_a10 : a9 ≠ a10 := m_fr f21_a9 hMa10
  refine m_putF C w f22_m0 (v := .ref a10) (index := 46) (T := TX4) (N := 16) rfl hi_X4 tyX4 tyX4_ok nmX4 15 (by decide) (by decide +kernel) rfl hnm rfl (tyX4_ok 15 (by decide)) rfl rfl (Nat.le_of_ble_eq_true rfl) dX4_init_99 (fun H locs w => ?_)
  obtain ⟨M23, e_M23⟩ : ∃ z, z = mu M22 m0 (eO 3 [.ref a0, .ref a1, .ref a2, .ref a3, .ref a4, .ref a5, .int 0, .int 0, .ref a6, .ref a7, .int 0, .ref a8, .ref a9, .int (-1), .int 0, .ref a10]) := ⟨_, rfl⟩
  have w : mS D S0 M23 F s H locs := by rw [e_M23]; exact w
  have f23_a0 : M23 a0 = some (eI y 12 (fun _ => 0)) := by rw [e_M23]; exact mu_k (m_ne f22_a0 f22_m0 (by first | exact ne_LT | exact ne_LI | exact ne_LH | exact ne_TL | exact ne_IL | exact ne_IH | exact ne_IT | exact ne_HL | exact ne_HI | exact ne_TI | exact ne_OA | exact ne_AO | (intro h; cases h))) f22_a0
  have f23_a1 : M23 a1 = some (eI y 12 (fun _ => 0)) := by rw [e_M23]; exact mu_k (m_ne f22_a1 f22_m0 (by first | exact ne_LT | exact ne_LI | exact ne_LH | exact ne_TL | exact ne_IL | exact ne_IH | exact ne_IT | exact ne_HL | exact ne_HI | exact ne_TI | exact ne_OA | exact ne_AO | (intro h; cases h))) f22_a1
  have f23_a2 : M23 a2 = some (eI y 520 (fun _ => 0)) := by rw [e_M23]; exact mu_k (m_ne f22_a2 f22_m0 (by first | exact ne_LT | exact ne_LI | exact ne_LH | exact ne_TL | exact ne_IL | exact ne_IH | exact ne_IT | exact ne_HL | exact ne_HI | exact ne_TI | exact ne_OA | exact ne_AO | (intro h; cases h))) f22_a2
  have f23_a3 : M23 a3 = some (eI y 520 (fun _ => 0)) := by rw [e_M23]; exact mu_k (m_ne f22_a3 f22_m0 (by first | exact ne_LT | exact ne_LI | exact ne_LH | exact ne_TL | exact ne_IL | exact ne_IH | exact ne_IT | exact ne_HL | exact ne_HI | exact ne_TI | exact ne_OA | exact ne_AO | (intro h; cases h))) f22_a3
  have f23_a4 : M23 a4 = some (eI y 520 (fun _ => 0)) := by rw [e_M23]; exact mu_k (m_ne f22_a4 f22_m0 (by first | exact ne_LT | exact ne_LI | exact ne_LH | exact ne_TL | exact ne_IL | exact ne_IH | exact ne_IT | exact ne_HL | exact ne_HI | exact ne_TI | exact ne_OA | exact ne_AO | (intro h; cases h))) f22_a4
  have f23_a5 : M23 a5 = some (eL y 33000 (fun _ => 0)) := by rw [e_M23]; exact mu_k (m_ne f22_a5 f22_m0 (by first | exact ne_LT | exact ne_LI | exact ne_LH | exact ne_TL | exact ne_IL | exact ne_IH | exact ne_IT | exact ne_HL | exact ne_HI | exact ne_TI | exact ne_OA | exact ne_AO | (intro h; cases h))) f22_a5
  have f23_a6 : M23 a6 = some (eI y 520 (fun _ => 0)) := by rw [e_M23]; exact mu_k (m_ne f22_a6 f22_m0 (by first | exact ne_LT | exact ne_LI | exact ne_LH | exact ne_TL | exact ne_IL | exact ne_IH | exact ne_IT | exact ne_HL | exact ne_HI | exact ne_TI | exact ne_OA | exact ne_AO | (intro h; cases h))) f22_a6
  have f23_a7 : M23 a7 = some (eI y 520 (fun _ => 0)) := by rw [e_M23]; exact mu_k (m_ne f22_a7 f22_m0 (by first | exact ne_LT | exact ne_LI | exact ne_LH | exact ne_TL | exact ne_IL | exact ne_IH | exact ne_IT | exact ne_HL | exact ne_HI | exact ne_TI | exact ne_OA | exact ne_AO | (intro h; cases h))) f22_a7
  have f23_a8 : M23 a8 = some (eL y 64 (fun _ => 0)) := by rw [e_M23]; exact mu_k (m_ne f22_a8 f22_m0 (by first | exact ne_LT | exact ne_LI | exact ne_LH | exact ne_TL | exact ne_IL | exact ne_IH | exact ne_IT | exact ne_HL | exact ne_HI | exact ne_TI | exact ne_OA | exact ne_AO | (intro h; cases h))) f22_a8
  have f23_a9 : M23 a9 = some (eL y 64 (fun _ => 0)) := by rw [e_M23]; exact mu_k (m_ne f22_a9 f22_m0 (by first | exact ne_LT | exact ne_LI | exact ne_LH | exact ne_TL | exact ne_IL | exact ne_IH | exact ne_IT | exact ne_HL | exact ne_HI | exact ne_TI | exact ne_OA | exact ne_AO | (intro h; cases h))) f22_a9
  have f23_a10 : M23 a10 = some (eI y 7 (fun _ => 0)) := by rw [e_M23]; exact mu_k (m_ne f22_a10 f22_m0 (by first | exact ne_LT | exact ne_LI | exact ne_LH | exact ne_TL | exact ne_IL | exact ne_IH | exact ne_IT | exact ne_HL | exact ne_HI | exact ne_TI | exact ne_OA | exact ne_AO | (intro h; cases h))) f22_a10
  have f23_m0 : M23 m0 = some (eO 3 [.ref a0, .ref a1, .ref a2, .ref a3, .ref a4, .ref a5, .int 0, .int 0, .ref a6, .ref a7, .int 0, .ref a8, .ref a9, .int (-1), .int 0, .ref a10]) := by rw [e_M23]; exact mu_s
  exact m_vret C w dX4_init_102 (by omega) (by omega) (by
    refine ⟨rfl, (fun k => if k = 0 then a0 else if k = 1 then a1 else if k = 2 then a2 else if k = 3 then a3 else if k = 4 then a4 else if k = 5 then a5 else if k = 6 then a6 else if k = 7 then a7 else if k = 8 then a8 else if k = 9 then a9 else a10), fun _ => 0, 0, fun _ => 0, fun _ => 0, fun _ => 0, fun _ => 0, ⟨f23_m0, fun k hk => ?_, fun i k hi hk e => ?_⟩, ?_⟩
    · rcases (show k = 0 ∨ k = 1 ∨ k = 2 ∨ k = 3 ∨ k = 4 ∨ k = 5 ∨ k = 6 ∨ k = 7 ∨ k = 8 ∨ k = 9 ∨ k = 10 by omega) with rfl | rfl | rfl | rfl | rfl | rfl | rfl | rfl | rfl | rfl | rfl
      · exact f23_a0
      · exact f23_a1
      · exact f23_a2
      · exact f23_a3
      · exact f23_a4
      · exact f23_a5
      · exact f23_a6
      · exact f23_a7
      · exact f23_a8
      · exact f23_a9
      · exact f23_a10
    · rcases (show i = 0 ∨ i = 1 ∨ i = 2 ∨ i = 3 ∨ i = 4 ∨ i = 5 ∨ i = 6 ∨ i = 7 ∨ i = 8 ∨ i = 9 ∨ i = 10 by omega) with rfl | rfl | rfl | rfl | rfl | rfl | rfl | rfl | rfl | rfl | rfl <;> rcases (show k = 0 ∨ k = 1 ∨ k = 2 ∨ k = 3 ∨ k = 4 ∨ k = 5 ∨ k = 6 ∨ k = 7 ∨ k = 8 ∨ k = 9 ∨ k = 10 by omega) with rfl | rfl | rfl | rfl | rfl | rfl | rfl | rfl | rfl | rfl | rfl <;> first | rfl | exact absurd e (by assumption) | exact absurd e.symm (by assumption)
    · exact ⟨fun r hr => absurd hr (Nat.not_lt_zero r), fun r q _ hq => absurd hq (Nat.not_lt_zero q), Nat.le_refl _, fun _ _ => rfl, fun r i hr => absurd hr (Nat.not_lt_zero r), fun r i h => (by cases h), fun _ _ => rfl⟩)
