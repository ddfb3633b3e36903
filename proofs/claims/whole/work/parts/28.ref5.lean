theorem nI_m1 {r : Nat} (h : r < 2 ^ 31) : ¬ nI r = -1 := fun e => by
  have := nI_pos h
  rw [e] at this
  exact this (by decide)
set_option maxRecDepth 100000 in
set_option maxHeartbeats 4000000 in
theorem r_undo_n (l : Launch) (D : va_G) (y : mY) (S0 : Nat) (M F : mp) (m0 : Nat) (B : Nat → Nat) (fr : Nat → Nat) (nc : Nat) (cl go bf : Nat → Int64) (cn : Nat → Int32) (S : St) (hW : MW y m0 B fr nc cl go bf cn S M) (hQ : MR fr nc cl bf cn S) (c0 : Nat) (hI : Inv c0 S) (hB : sB S = none) : ct l yX4_undo wsX4_undo 0 0 0 0 D y S0 M F [.ref m0] (fun v M' => v = some (.int (sp_undo S ).1) ∧ RM y m0 (sp_undo S ).2 M') := by
  refine ct_of cX4_undo 3 (some .int) [(0, .ref m0)] (by decide +kernel) rfl (Nat.le_of_ble_eq_true rfl) rfl ?_
  intro p e s m below meth c ls C hnm hl w
  have hx := C.1
  have hb := C.2.1
  have hi_X4 : ∀ w ∈ u_ws RX4 TX4 16, w ∈ wsX4_undo := by decide +kernel
  have hbr : brI S = -1 := by unfold brI; rw [hB]
  refine lv_aload_n hx hb dX4_undo_0 rfl (lv_at hl 0 rfl) ?_
  refine m_get C w hW.1 (index := 42) (T := TX4) (N := 16) rfl hi_X4 13 (by decide) (by decide +kernel) rfl dX4_undo_1 ?_
  refine m_topi (y := (-1)) hbr ?_
  refine lv_iconst (v := (-1)) hx hb dX4_undo_4 (by decide) ?_
  refine lv_icmp_ne (tgt := 10) hx hb dX4_undo_5 (by decide) (fun c_5 => ?_) (fun c_5 => ?_)
  · skip
    exact absurd rfl c_5
  · skip
    refine lv_iconst (v := (-1)) hx hb dX4_undo_8 (by decide) ?_
    exact m_iret C w dX4_undo_9 (by omega) (by omega) (⟨by unfold sp_undo; rw [hB], by unfold sp_undo; rw [hB]; exact ⟨B, fr, nc, cl, go, bf, cn, hW, hQ⟩⟩)
set_option maxRecDepth 100000 in
set_option maxHeartbeats 4000000 in
theorem r_undo_s (l : Launch) (D : va_G) (y : mY) (S0 : Nat) (M F : mp) (m0 : Nat) (B : Nat → Nat) (fr : Nat → Nat) (nc : Nat) (cl go bf : Nat → Int64) (cn : Nat → Int32) (S : St) (hW : MW y m0 B fr nc cl go bf cn S M) (hQ : MR fr nc cl bf cn S) (c0 : Nat) (hI : Inv c0 S) (r : Nat) (hB : sB S = some r) : ct l yX4_undo wsX4_undo 0 0 0 0 D y S0 M F [.ref m0] (fun v M' => v = some (.int (sp_undo S ).1) ∧ RM y m0 (sp_undo S ).2 M') := by
  refine ct_of cX4_undo 3 (some .int) [(0, .ref m0)] (by decide +kernel) rfl (Nat.le_of_ble_eq_true rfl) rfl ?_
  intro p e s m below meth c ls C hnm hl w
  have hx := C.1
  have hb := C.2.1
  have hi_X4 : ∀ w ∈ u_ws RX4 TX4 16, w ∈ wsX4_undo := by decide +kernel
  have hbr : brI S = nI r := by unfold brI; rw [hB]
  have hr : r < sN S := (hI.2.2.2.2.2.2.2.1 r hB).1
  have hz64 : sZ S r ≤ 64 := (hI.2.2.2.1 r hr).2.2.1
  have hb1 := hI.1
  have hb2 := hI.2.2.1
  have hq3 := hQ.2.2.1
  refine lv_aload_n hx hb dX4_undo_0 rfl (lv_at hl 0 rfl) ?_
  refine m_get C w hW.1 (index := 42) (T := TX4) (N := 16) rfl hi_X4 13 (by decide) (by decide +kernel) rfl dX4_undo_1 ?_
  refine m_topi (y := nI r) hbr ?_
  refine lv_iconst (v := (-1)) hx hb dX4_undo_4 (by decide) ?_
  refine lv_icmp_ne (tgt := 10) hx hb dX4_undo_5 (by decide) (fun c_5 => ?_) (fun c_5 => ?_)
  · skip
    refine lv_aload_n hx hb dX4_undo_10 rfl (lv_at hl 0 rfl) ?_
    refine m_get C w hW.1 (index := 22) (T := TX4) (N := 16) rfl hi_X4 4 (by decide) (by decide +kernel) rfl dX4_undo_11 ?_
    refine lv_aload_n hx hb dX4_undo_14 rfl (lv_at hl 0 rfl) ?_
    refine m_get C w hW.1 (index := 42) (T := TX4) (N := 16) rfl hi_X4 13 (by decide) (by decide +kernel) rfl dX4_undo_15 ?_
    refine m_topi (y := nI r) hbr ?_
    refine m_iald C w hW.a4 r rfl (by omega) (by omega) dX4_undo_18 ?_
    refine lv_istore_n (lv' := [(1, .int (nI (sZ S r))), (0, .ref m0)]) hx hb dX4_undo_19 rfl hl (by decide) rfl (fun ls hl => ?_)
    refine lv_iconst (v := 0) hx hb dX4_undo_20 (by decide) ?_
    refine lv_istore_n (lv' := [(2, .int 0), (1, .int (nI (sZ S r))), (0, .ref m0)]) hx hb dX4_undo_21 rfl hl (by decide) rfl (fun ls hl => ?_)
    have lp : ∀ (kf : Nat) (i : Nat) (c2 : Nat → Int64) (M2 : mp), (i ≤ sZ S r) → (MW y m0 B fr nc c2 go bf cn S M2) → (MR fr nc c2 bf cn (wRC S (va_up (sC S) r (fun j => if j < i then sF S j else sC S r j)))) →  ∀ (H : Heap) (locs : List Loc) (ls : Array Slot), sZ S r - i = kf → mS D S0 M2 F s H locs → lv_has ls 3 [(2, .int (nI i)), (1, .int (nI (sZ S r))), (0, .ref m0)] → W p l e { frames := 0, cells := 0, slots := 0, locals := 0 } s m ([.ref m0] : List Value).toArray below meth c H locs 0 0 (MQ below (mQ D S0 F (fun v M' => v = some (.int (sp_undo S ).1) ∧ RM y m0 (sp_undo S ).2 M')) ([.ref m0] : List Value).toArray s 0 0 (fun q => S0 ≤ q)) (F0 m 22 ls []) := by
      clear w hl
      intro kf
      induction kf using Nat.strongRecOn with
      | _ kf ih_lp =>
        intro i c2 M2 hi hW2 hQ2 H locs ls hkf w hl
        refine lv_iload_n hx hb dX4_undo_22 rfl (lv_at hl 0 rfl) ?_
        refine lv_iload_n hx hb dX4_undo_23 rfl (lv_at hl 1 rfl) ?_
        refine lv_icmp_ge (tgt := 55) hx hb dX4_undo_24 (by decide) (fun c_24 => ?_) (fun c_24 => ?_)
        · skip
          have n_24 : (sZ S r) ≤ i := (nI_leI (by omega) (by omega)).mp c_24
          refine lv_aload_n hx hb dX4_undo_55 rfl (lv_at hl 2 rfl) ?_
          refine lv_iconst (v := (-1)) hx hb dX4_undo_56 (by decide) ?_
          refine m_put C w hW2.1 (v := .int (-1)) (index := 42) (T := TX4) (N := 16) rfl hi_X4 tyX4 tyX4_ok nmX4 13 (by decide) (by decide +kernel) rfl (tyX4_ok 13 (by decide)) rfl rfl (Nat.le_of_ble_eq_true rfl) dX4_undo_57 (fun H locs w => ?_)
          obtain ⟨M9, e_M9⟩ : ∃ z, z = mu M2 m0 (eO 3 (mFl B nc (wBf (wRC S (va_up (sC S) r (sF S))) none (sF S)))) := ⟨_, rfl⟩
          have w : mS D S0 M9 F s H locs := by rw [e_M9]; exact w
          have hW9 : MW y m0 B fr nc c2 go bf cn (wBf (wRC S (va_up (sC S) r (sF S))) none (sF S)) M9 := by rw [e_M9]; exact hW2.fld (by intro k hk; rcases (show k = 0 ∨ k = 1 ∨ k = 2 ∨ k = 3 ∨ k = 4 ∨ k = 5 ∨ k = 6 ∨ k = 7 ∨ k = 8 ∨ k = 9 ∨ k = 10 by omega) with rfl | rfl | rfl | rfl | rfl | rfl | rfl | rfl | rfl | rfl | rfl <;> rfl)
          refine lv_iload_n hx hb dX4_undo_60 rfl (lv_at hl 1 rfl) ?_
          exact m_iret C w dX4_undo_61 (by omega) (by omega) (⟨by unfold sp_undo; rw [hB], by
            unfold sp_undo
            rw [hB]
            have hQ8 := MR.ext (S := S) (z2 := sF S) hQ2 (fun j hj => if_pos (by omega))
            exact ⟨B, fr, nc, c2, go, bf, cn, hW9, hQ8.1, hQ8.2.1, hQ8.2.2.1, hQ8.2.2.2.1, hQ8.2.2.2.2.1, fun q i h => (by cases h), hQ8.2.2.2.2.2.2⟩⟩)
        · skip
          have n_24 : ¬ (sZ S r) ≤ i := fun h => absurd ((nI_leI (by omega) (by omega)).mpr h) c_24
          refine lv_aload_n hx hb dX4_undo_27 rfl (lv_at hl 2 rfl) ?_
          refine m_get C w hW2.1 (index := 26) (T := TX4) (N := 16) rfl hi_X4 5 (by decide) (by decide +kernel) rfl dX4_undo_28 ?_
          refine lv_aload_n hx hb dX4_undo_31 rfl (lv_at hl 2 rfl) ?_
          refine m_get C w hW2.1 (index := 19) (T := TX4) (N := 16) rfl hi_X4 3 (by decide) (by decide +kernel) rfl dX4_undo_32 ?_
          refine lv_aload_n hx hb dX4_undo_35 rfl (lv_at hl 2 rfl) ?_
          refine m_get C w hW2.1 (index := 42) (T := TX4) (N := 16) rfl hi_X4 13 (by decide) (by decide +kernel) rfl dX4_undo_36 ?_
          refine m_topi (y := nI r) hbr ?_
          refine m_iald C w hW2.a3 r rfl (by omega) (by omega) dX4_undo_39 ?_
          refine lv_iload_n hx hb dX4_undo_40 rfl (lv_at hl 0 rfl) ?_
          refine lv_iadd hx hb dX4_undo_41 ?_
          refine m_topi (y := nI ((fr r) + i)) (by first | exact nI_add _ _ | exact nI_1 _) ?_
          refine lv_aload_n hx hb dX4_undo_42 rfl (lv_at hl 2 rfl) ?_
          refine m_get C w hW2.1 (index := 39) (T := TX4) (N := 16) rfl hi_X4 12 (by decide) (by decide +kernel) rfl dX4_undo_43 ?_
          refine lv_iload_n hx hb dX4_undo_46 rfl (lv_at hl 0 rfl) ?_
          refine m_lald C w hW2.a9 i rfl (by omega) (by omega) dX4_undo_47 ?_
          refine m_topl (y := sF S i) (hQ.2.2.2.2.2.1 r i hB (by omega)) ?_
          have hq1 := hQ.1 r hr
          refine m_last C w hW2.a5 (fr r + i) rfl (by omega) (by omega) dX4_undo_48 (fun H locs w => ?_)
          have hW3 := hW2.set (nc' := nc) (fr' := fr) (cl' := va_up c2 (fr r + i) (sF S i)) (go' := go) (bf' := bf) (cn' := cn) (S' := S) 5 (by decide) rfl (by intro k hk hne; rcases (show k = 0 ∨ k = 1 ∨ k = 2 ∨ k = 3 ∨ k = 4 ∨ k = 5 ∨ k = 6 ∨ k = 7 ∨ k = 8 ∨ k = 9 ∨ k = 10 by omega) with rfl | rfl | rfl | rfl | rfl | rfl | rfl | rfl | rfl | rfl | rfl <;> first | rfl | exact absurd rfl hne) rfl
          have hQ3 := MR_step (S := S) (r := r) (i := i) (z := sF S) (hQ2.set (r := r) (i := i) hr (show i < sZ S r by omega) (sF S i))
          refine lv_iinc (v := nI (i + 1)) (lv' := [(2, .int (nI (i + 1))), (1, .int (nI (sZ S r))), (0, .ref m0)]) hx hb dX4_undo_49 hl (k := 0) rfl (by first | exact nI_1 _ | exact nI_add _ _ | rfl) (by decide) rfl (fun ls hl => ?_)
          refine lv_goto (tgt := 22) hx hb dX4_undo_52 (by decide) ?_
          exact ih_lp (sZ S r - (i + 1)) (by omega) (i + 1) _ _ (by omega) hW3 hQ3 _ _ ls rfl w (lv_sub hl [0, 1, 2] rfl)
    exact lp _ 0 cl M (by omega) hW (MR_0 (r := r) (z := sF S) (fun j hj => by omega) hQ) _ _ ls rfl w (lv_sub hl [0, 1, 2] rfl)
  · skip
    exact absurd c_5 (nI_m1 (by omega))
theorem r_undo (l : Launch) (D : va_G) (y : mY) (S0 : Nat) (M F : mp) (m0 : Nat) (B : Nat → Nat) (fr : Nat → Nat) (nc : Nat) (cl go bf : Nat → Int64) (cn : Nat → Int32) (S : St) (hW : MW y m0 B fr nc cl go bf cn S M) (hQ : MR fr nc cl bf cn S) (c0 : Nat) (hI : Inv c0 S) : ct l yX4_undo wsX4_undo 0 0 0 0 D y S0 M F [.ref m0] (fun v M' => v = some (.int (sp_undo S ).1) ∧ RM y m0 (sp_undo S ).2 M') := by
  cases hB : sB S with
  | none => exact r_undo_n l D y S0 M F m0 B fr nc cl go bf cn S hW hQ c0 hI hB
  | some r => exact r_undo_s l D y S0 M F m0 B fr nc cl go bf cn S hW hQ c0 hI r hB
set_option maxRecDepth 100000 in
set_option maxHeartbeats 4000000 in
theorem r_match (l : Launch) (D : va_G) (y : mY) (S0 : Nat) (M F : mp) (m0 : Nat) (B : Nat → Nat) (fr : Nat → Nat) (nc : Nat) (cl go bf : Nat → Int64) (cn : Nat → Int32) (S : St) (hW : MW y m0 B fr nc cl go bf cn S M) (hQ : MR fr nc cl bf cn S) (c0 : Nat) (hI : Inv c0 S) (a1 p1 b1 q1 n1 : Int32) : ct l yX4_match wsX4_match 3 64 0 0 D y S0 M F [.ref m0, .int a1, .int p1, .int b1, .int q1, .int n1] (fun v M' => v = some (.int (sp_match S a1 p1 b1 q1 n1)) ∧ M' = M) := by
  refine ct_of cX4_match 8 (some .int) [(0, .ref m0), (1, .int a1), (2, .int p1), (3, .int b1), (4, .int q1), (5, .int n1)] (by decide +kernel) rfl (Nat.le_of_ble_eq_true rfl) rfl ?_
  intro p e s m below meth c ls C hnm hl w
  have hx := C.1
  have hb := C.2.1
  have hi_X4 : ∀ w ∈ u_ws RX4 TX4 16, w ∈ wsX4_match := by decide +kernel
  refine lv_iload_n hx hb dX4_match_0 rfl (lv_at hl 1 rfl) ?_
  refine m_callS C w hl.1 (As := [.int a1]) (rest := []) (r_isTray l D y S0 M F a1) ggX4_match_X4_isTray rfl (by decide +kernel) (by decide +kernel) (by decide +kernel) (show (_ ≠ _ ∧ _ ≠ _ ∧ _ = some 1) by decide +kernel) ⟨Nat.le_of_ble_eq_true rfl, Nat.le_of_ble_eq_true rfl⟩ rfl (Nat.le_of_ble_eq_true rfl) dX4_match_1 ⟨Nat.le_of_ble_eq_true rfl, Nat.le_of_ble_eq_true rfl⟩ (fun v M1 H locs hq w => ?_)
  obtain ⟨rfl, hM1⟩ := hq
  rw [hM1] at w
  clear hM1 M1
  refine W.eq (g2 := F0 m 4 ls [.int (bI (inP a1 12))]) rfl ?_
  refine lv_if_eq (tgt := 14) hx hb dX4_match_4 (by decide) (fun c_4 => ?_) (fun c_4 => ?_)
  · skip
    have n_4 : (inP a1 12) = false := bI_f c_4
    refine lv_bipush (v := (-6)) hx hb dX4_match_14 (by decide) ?_
    exact m_iret C w dX4_match_16 (by omega) (by omega) (⟨by unfold sp_match; rw [if_pos (by first | (simp [n_4, n_11]; done) | (simp [n_4]; done))], rfl⟩)
  · skip
    have n_4 : (inP a1 12) = true := bI_t c_4
    refine lv_iload_n hx hb dX4_match_7 rfl (lv_at hl 3 rfl) ?_
    refine m_callS C w hl.1 (As := [.int b1]) (rest := []) (r_isTray l D y S0 M F b1) ggX4_match_X4_isTray rfl (by decide +kernel) (by decide +kernel) (by decide +kernel) (show (_ ≠ _ ∧ _ ≠ _ ∧ _ = some 1) by decide +kernel) ⟨Nat.le_of_ble_eq_true rfl, Nat.le_of_ble_eq_true rfl⟩ rfl (Nat.le_of_ble_eq_true rfl) dX4_match_8 ⟨Nat.le_of_ble_eq_true rfl, Nat.le_of_ble_eq_true rfl⟩ (fun v M1 H locs hq w => ?_)
    obtain ⟨rfl, hM1⟩ := hq
    rw [hM1] at w
    clear hM1 M1
    refine W.eq (g2 := F0 m 11 ls [.int (bI (inP b1 12))]) rfl ?_
    refine lv_if_ne (tgt := 17) hx hb dX4_match_11 (by decide) (fun c_11 => ?_) (fun c_11 => ?_)
    · skip
      have n_11 : (inP b1 12) = true := bI_t c_11
      obtain ⟨ta, hta, ea⟩ := inP_t (by decide) n_4
      obtain ⟨tb, htb, eb⟩ := inP_t (by decide) n_11
      have hza := zT_le hI hta
      have hzb := zT_le hI htb
      have hm0 : sp_match S a1 p1 b1 q1 n1 = mat1 S ta p1 tb q1 n1 := by unfold sp_match; rw [if_neg (by simp [n_4, n_11]), ea, eb, cN_nI (by omega), cN_nI (by omega)]
      refine lv_aload_n hx hb dX4_match_17 rfl (lv_at hl 0 rfl) ?_
      refine lv_iload_n hx hb dX4_match_18 rfl (lv_at hl 1 rfl) ?_
      refine m_topi (y := nI ta) ea ?_
      refine lv_iload_n hx hb dX4_match_19 rfl (lv_at hl 3 rfl) ?_
      refine m_topi (y := nI tb) eb ?_
      refine m_callV C w hl.1 (As := [.int (nI ta), .int (nI tb)]) (rest := []) (r_unlike l D y S0 M F m0 B fr nc cl go bf bf cn S hW hQ c0 hI ta tb hta htb) gX4_match_X4_unlike rfl hW.1 (T := TX4) (N := 16) rfl (show (_ = _ ∧ _ ≠ _ ∧ _ ≠ _ ∧ _ = some 2) by decide +kernel) ⟨Nat.le_of_ble_eq_true rfl, Nat.le_of_ble_eq_true rfl⟩ rfl (Nat.le_of_ble_eq_true rfl) dX4_match_20 ⟨Nat.le_of_ble_eq_true rfl, Nat.le_of_ble_eq_true rfl⟩ (fun v M1 H locs hq w => ?_)
      obtain ⟨rfl, hM1⟩ := hq
      rw [hM1] at w
      clear hM1 M1
      refine W.eq (g2 := F0 m 23 ls [.int (unl S ta tb)]) rfl ?_
      refine lv_istore (lv' := [(6, .int (unl S ta tb)), (0, .ref m0), (1, .int a1), (2, .int p1), (3, .int b1), (4, .int q1), (5, .int n1)]) hx hb dX4_match_23 hl (by decide) rfl (fun ls hl => ?_)
      refine lv_iload hx hb dX4_match_25 (lv_at hl 0 rfl) ?_
      refine lv_if_ge (tgt := 33) hx hb dX4_match_27 (by decide) (fun c_27 => ?_) (fun c_27 => ?_)
      · skip
        refine lv_iload_n hx hb dX4_match_33 rfl (lv_at hl 3 rfl) ?_
        refine lv_if_lt (tgt := 66) hx hb dX4_match_34 (by decide) (fun c_34 => ?_) (fun c_34 => ?_)
        · skip
          refine lv_bipush (v := (-4)) hx hb dX4_match_66 (by decide) ?_
          exact m_iret C w dX4_match_68 (by omega) (by omega) (⟨by
            rw [hm0]
            unfold mat1
            rw [if_neg (fun h => h (unl_ge c_27)), if_pos ?_]
            unfold inP
            rw [show decide (nI (zT S ta + 1) ≤ p1) = decide (nI (zT S ta) < p1) from decide_eq_decide.mpr (lt_s1 (by omega)).symm, show decide (nI (zT S tb + 1) ≤ q1) = decide (nI (zT S tb) < q1) from decide_eq_decide.mpr (lt_s1 (by omega)).symm]
            simp [c_34], rfl⟩)
        · skip
          refine lv_iload hx hb dX4_match_37 (lv_at hl 5 rfl) ?_
          refine lv_if_lt (tgt := 66) hx hb dX4_match_39 (by decide) (fun c_39 => ?_) (fun c_39 => ?_)
          · skip
            refine lv_bipush (v := (-4)) hx hb dX4_match_66 (by decide) ?_
            exact m_iret C w dX4_match_68 (by omega) (by omega) (⟨by
              rw [hm0]
              unfold mat1
              rw [if_neg (fun h => h (unl_ge c_27)), if_pos ?_]
              unfold inP
              rw [show decide (nI (zT S ta + 1) ≤ p1) = decide (nI (zT S ta) < p1) from decide_eq_decide.mpr (lt_s1 (by omega)).symm, show decide (nI (zT S tb + 1) ≤ q1) = decide (nI (zT S tb) < q1) from decide_eq_decide.mpr (lt_s1 (by omega)).symm]
              simp [c_39], rfl⟩)
          · skip
            refine lv_iload hx hb dX4_match_42 (lv_at hl 6 rfl) ?_
            refine lv_if_lt (tgt := 66) hx hb dX4_match_44 (by decide) (fun c_44 => ?_) (fun c_44 => ?_)
            · skip
              refine lv_bipush (v := (-4)) hx hb dX4_match_66 (by decide) ?_
              exact m_iret C w dX4_match_68 (by omega) (by omega) (⟨by
                rw [hm0]
                unfold mat1
                rw [if_neg (fun h => h (unl_ge c_27)), if_pos ?_]
                unfold inP
                rw [show decide (nI (zT S ta + 1) ≤ p1) = decide (nI (zT S ta) < p1) from decide_eq_decide.mpr (lt_s1 (by omega)).symm, show decide (nI (zT S tb + 1) ≤ q1) = decide (nI (zT S tb) < q1) from decide_eq_decide.mpr (lt_s1 (by omega)).symm]
                simp [c_44], rfl⟩)
            · skip
              refine lv_iload_n hx hb dX4_match_47 rfl (lv_at hl 3 rfl) ?_
              refine lv_aload_n hx hb dX4_match_48 rfl (lv_at hl 1 rfl) ?_
              refine lv_iload_n hx hb dX4_match_49 rfl (lv_at hl 2 rfl) ?_
              refine m_topi (y := nI ta) ea ?_
              refine m_callV C w hl.1 (As := [.int (nI ta)]) (rest := [.int p1]) (r_sizeOf l D y S0 M F m0 B fr nc cl go bf bf cn S hW hQ c0 hI ta hta) gX4_match_X4_sizeOf rfl hW.1 (T := TX4) (N := 16) rfl (show (_ = _ ∧ _ ≠ _ ∧ _ ≠ _ ∧ _ = some 1) by decide +kernel) ⟨Nat.le_of_ble_eq_true rfl, Nat.le_of_ble_eq_true rfl⟩ rfl (Nat.le_of_ble_eq_true rfl) dX4_match_50 ⟨Nat.le_of_ble_eq_true rfl, Nat.le_of_ble_eq_true rfl⟩ (fun v M1 H locs hq w => ?_)
              obtain ⟨rfl, hM1⟩ := hq
              rw [hM1] at w
              clear hM1 M1
              refine W.eq (g2 := F0 m 53 ls [.int (nI (zT S ta)), .int p1]) rfl ?_
              refine lv_icmp_gt (tgt := 66) hx hb dX4_match_53 (by decide) (fun c_53 => ?_) (fun c_53 => ?_)
              · skip
                refine lv_bipush (v := (-4)) hx hb dX4_match_66 (by decide) ?_
                exact m_iret C w dX4_match_68 (by omega) (by omega) (⟨by
                  rw [hm0]
                  unfold mat1
                  rw [if_neg (fun h => h (unl_ge c_27)), if_pos ?_]
                  unfold inP
                  rw [show decide (nI (zT S ta + 1) ≤ p1) = decide (nI (zT S ta) < p1) from decide_eq_decide.mpr (lt_s1 (by omega)).symm, show decide (nI (zT S tb + 1) ≤ q1) = decide (nI (zT S tb) < q1) from decide_eq_decide.mpr (lt_s1 (by omega)).symm]
                  simp [c_53], rfl⟩)
              · skip
                refine lv_iload hx hb dX4_match_56 (lv_at hl 5 rfl) ?_
                refine lv_aload_n hx hb dX4_match_58 rfl (lv_at hl 1 rfl) ?_
                refine lv_iload_n hx hb dX4_match_59 rfl (lv_at hl 4 rfl) ?_
                refine m_topi (y := nI tb) eb ?_
                refine m_callV C w hl.1 (As := [.int (nI tb)]) (rest := [.int q1]) (r_sizeOf l D y S0 M F m0 B fr nc cl go bf bf cn S hW hQ c0 hI tb htb) gX4_match_X4_sizeOf rfl hW.1 (T := TX4) (N := 16) rfl (show (_ = _ ∧ _ ≠ _ ∧ _ ≠ _ ∧ _ = some 1) by decide +kernel) ⟨Nat.le_of_ble_eq_true rfl, Nat.le_of_ble_eq_true rfl⟩ rfl (Nat.le_of_ble_eq_true rfl) dX4_match_60 ⟨Nat.le_of_ble_eq_true rfl, Nat.le_of_ble_eq_true rfl⟩ (fun v M1 H locs hq w => ?_)
                obtain ⟨rfl, hM1⟩ := hq
                rw [hM1] at w
                clear hM1 M1
                refine W.eq (g2 := F0 m 63 ls [.int (nI (zT S tb)), .int q1]) rfl ?_
                refine lv_icmp_le (tgt := 69) hx hb dX4_match_63 (by decide) (fun c_63 => ?_) (fun c_63 => ?_)
                · skip
                  have hu0 := unl_ge c_27
                  obtain ⟨h2a, h2b, hcm⟩ := unlK_0 (show unlK (sH S ta) (sH S tb) = 0 from hu0)
                  obtain ⟨pp, hpl, ep⟩ := nI_of2 (M := nI (zT S ta)) (n := zT S ta) (nI_toInt (by omega)) c_34 (Int32.not_lt.mp c_53)
                  obtain ⟨qq, hql, eq⟩ := nI_of2 (M := nI (zT S tb)) (n := zT S tb) (nI_toInt (by omega)) c_39 c_63
                  obtain ⟨nn, hnl, en⟩ := nI_of c_44
                  have hm : sp_match S a1 p1 b1 q1 n1 = nI (ld (fun j => decide (sC S (rowT S ta) (pp + j) = sC S (rowT S tb) (qq + j))) (min nn (min (zT S ta - pp) (zT S tb - qq)))) := by
                    rw [hm0]
                    unfold mat1
                    rw [if_neg (fun h => h hu0), if_neg (by rw [ep, eq, en]; simp [inP_nI (show pp < zT S ta + 1 by omega) (by omega), inP_nI (show qq < zT S tb + 1 by omega) (by omega), nI_pos hnl]), ep, eq, en, cN_nI (by omega), cN_nI (by omega), cN_nI hnl]
                  refine lv_iconst (v := 0) hx hb dX4_match_69 (by decide) ?_
                  refine lv_istore (lv' := [(7, .int 0), (6, .int (unl S ta tb)), (0, .ref m0), (1, .int a1), (2, .int p1), (3, .int b1), (4, .int q1), (5, .int n1)]) hx hb dX4_match_70 hl (by decide) rfl (fun ls hl => ?_)
                  have lp : ∀ (kf : Nat) (i : Nat), (i ≤ min nn (min (zT S ta - pp) (zT S tb - qq))) → (∀ x, x < i → decide (sC S (rowT S ta) (pp + x) = sC S (rowT S tb) (qq + x)) = true) →  ∀ (H : Heap) (locs : List Loc) (ls : Array Slot), min nn (min (zT S ta - pp) (zT S tb - qq)) - i = kf → mS D S0 M F s H locs → lv_has ls 8 [(7, .int (nI i)), (1, .int a1), (2, .int p1), (3, .int b1), (4, .int q1), (5, .int n1), (0, .ref m0)] → W p l e { frames := 3, cells := 0, slots := 0, locals := 64 } s m ([.ref m0, .int a1, .int p1, .int b1, .int q1, .int n1] : List Value).toArray below meth c H locs 0 0 (MQ below (mQ D S0 F (fun v M' => v = some (.int (sp_match S a1 p1 b1 q1 n1)) ∧ M' = M)) ([.ref m0, .int a1, .int p1, .int b1, .int q1, .int n1] : List Value).toArray s 0 0 (fun q => S0 ≤ q)) (F0 m 72 ls []) := by
                    clear w hl
                    intro kf
                    induction kf using Nat.strongRecOn with
                    | _ kf ih_lp =>
                      intro i hi hK H locs ls hkf w hl
                      refine lv_iload hx hb dX4_match_72 (lv_at hl 0 rfl) ?_
                      refine lv_iload hx hb dX4_match_74 (lv_at hl 5 rfl) ?_
                      refine m_topi (y := nI nn) en ?_
                      refine lv_icmp_ge (tgt := 133) hx hb dX4_match_76 (by decide) (fun c_76 => ?_) (fun c_76 => ?_)
                      · skip
                        have n_76 : nn ≤ i := (nI_leI (by omega) (by omega)).mp c_76
                        refine lv_iload hx hb dX4_match_133 (lv_at hl 0 rfl) ?_
                        exact m_iret C w dX4_match_135 (by omega) (by omega) (⟨by rw [hm]; exact congrArg (fun z => some (Value.int (nI z))) (ld_eq (by omega) hK (Or.inl (by omega))).symm, rfl⟩)
                      · skip
                        have n_76 : ¬ nn ≤ i := fun h => absurd ((nI_leI (by omega) (by omega)).mpr h) c_76
                        refine lv_iload_n hx hb dX4_match_79 rfl (lv_at hl 2 rfl) ?_
                        refine m_topi (y := nI pp) ep ?_
                        refine lv_iload hx hb dX4_match_80 (lv_at hl 0 rfl) ?_
                        refine lv_iadd hx hb dX4_match_82 ?_
                        refine m_topi (y := nI (pp + i)) (by first | exact nI_add _ _ | exact nI_1 _) ?_
                        refine lv_aload_n hx hb dX4_match_83 rfl (lv_at hl 6 rfl) ?_
                        refine lv_iload_n hx hb dX4_match_84 rfl (lv_at hl 1 rfl) ?_
                        refine m_topi (y := nI ta) ea ?_
                        refine m_callV C w hl.1 (As := [.int (nI ta)]) (rest := [.int (nI (pp + i))]) (r_sizeOf l D y S0 M F m0 B fr nc cl go bf bf cn S hW hQ c0 hI ta hta) gX4_match_X4_sizeOf rfl hW.1 (T := TX4) (N := 16) rfl (show (_ = _ ∧ _ ≠ _ ∧ _ ≠ _ ∧ _ = some 1) by decide +kernel) ⟨Nat.le_of_ble_eq_true rfl, Nat.le_of_ble_eq_true rfl⟩ rfl (Nat.le_of_ble_eq_true rfl) dX4_match_85 ⟨Nat.le_of_ble_eq_true rfl, Nat.le_of_ble_eq_true rfl⟩ (fun v M1 H locs hq w => ?_)
                        obtain ⟨rfl, hM1⟩ := hq
                        rw [hM1] at w
                        clear hM1 M1
                        refine W.eq (g2 := F0 m 88 ls [.int (nI (zT S ta)), .int (nI (pp + i))]) rfl ?_
                        refine lv_icmp_ge (tgt := 133) hx hb dX4_match_88 (by decide) (fun c_88 => ?_) (fun c_88 => ?_)
                        · skip
                          have n_88 : (zT S ta) ≤ (pp + i) := (nI_leI (by omega) (by omega)).mp c_88
                          refine lv_iload hx hb dX4_match_133 (lv_at hl 0 rfl) ?_
                          exact m_iret C w dX4_match_135 (by omega) (by omega) (⟨by rw [hm]; exact congrArg (fun z => some (Value.int (nI z))) (ld_eq (by omega) hK (Or.inl (by omega))).symm, rfl⟩)
                        · skip
                          have n_88 : ¬ (zT S ta) ≤ (pp + i) := fun h => absurd ((nI_leI (by omega) (by omega)).mpr h) c_88
                          refine lv_iload hx hb dX4_match_91 (lv_at hl 4 rfl) ?_
                          refine m_topi (y := nI qq) eq ?_
                          refine lv_iload hx hb dX4_match_93 (lv_at hl 0 rfl) ?_
                          refine lv_iadd hx hb dX4_match_95 ?_
                          refine m_topi (y := nI (qq + i)) (by first | exact nI_add _ _ | exact nI_1 _) ?_
                          refine lv_aload_n hx hb dX4_match_96 rfl (lv_at hl 6 rfl) ?_
                          refine lv_iload_n hx hb dX4_match_97 rfl (lv_at hl 3 rfl) ?_
                          refine m_topi (y := nI tb) eb ?_
                          refine m_callV C w hl.1 (As := [.int (nI tb)]) (rest := [.int (nI (qq + i))]) (r_sizeOf l D y S0 M F m0 B fr nc cl go bf bf cn S hW hQ c0 hI tb htb) gX4_match_X4_sizeOf rfl hW.1 (T := TX4) (N := 16) rfl (show (_ = _ ∧ _ ≠ _ ∧ _ ≠ _ ∧ _ = some 1) by decide +kernel) ⟨Nat.le_of_ble_eq_true rfl, Nat.le_of_ble_eq_true rfl⟩ rfl (Nat.le_of_ble_eq_true rfl) dX4_match_98 ⟨Nat.le_of_ble_eq_true rfl, Nat.le_of_ble_eq_true rfl⟩ (fun v M1 H locs hq w => ?_)
                          obtain ⟨rfl, hM1⟩ := hq
                          rw [hM1] at w
                          clear hM1 M1
                          refine W.eq (g2 := F0 m 101 ls [.int (nI (zT S tb)), .int (nI (qq + i))]) rfl ?_
                          refine lv_icmp_ge (tgt := 133) hx hb dX4_match_101 (by decide) (fun c_101 => ?_) (fun c_101 => ?_)
                          · skip
                            have n_101 : (zT S tb) ≤ (qq + i) := (nI_leI (by omega) (by omega)).mp c_101
                            refine lv_iload hx hb dX4_match_133 (lv_at hl 0 rfl) ?_
                            exact m_iret C w dX4_match_135 (by omega) (by omega) (⟨by rw [hm]; exact congrArg (fun z => some (Value.int (nI z))) (ld_eq (by omega) hK (Or.inl (by omega))).symm, rfl⟩)
                          · skip
                            have n_101 : ¬ (zT S tb) ≤ (qq + i) := fun h => absurd ((nI_leI (by omega) (by omega)).mpr h) c_101
                            refine lv_aload_n hx hb dX4_match_104 rfl (lv_at hl 6 rfl) ?_
                            refine lv_iload_n hx hb dX4_match_105 rfl (lv_at hl 1 rfl) ?_
                            refine m_topi (y := nI ta) ea ?_
                            refine lv_iload_n hx hb dX4_match_106 rfl (lv_at hl 2 rfl) ?_
                            refine m_topi (y := nI pp) ep ?_
                            refine lv_iload hx hb dX4_match_107 (lv_at hl 0 rfl) ?_
                            refine lv_iadd hx hb dX4_match_109 ?_
                            refine m_topi (y := nI (pp + i)) (by first | exact nI_add _ _ | exact nI_1 _) ?_
                            refine m_callV C w hl.1 (As := [.int (nI ta), .int (nI (pp + i))]) (rest := []) (r_get l D y S0 M F m0 B fr nc cl go bf bf cn S hW hQ c0 hI ta hta h2a (pp + i) (by omega)) gX4_match_X4_get rfl hW.1 (T := TX4) (N := 16) rfl (show (_ = _ ∧ _ ≠ _ ∧ _ ≠ _ ∧ _ = some 2) by decide +kernel) ⟨Nat.le_of_ble_eq_true rfl, Nat.le_of_ble_eq_true rfl⟩ rfl (Nat.le_of_ble_eq_true rfl) dX4_match_110 ⟨Nat.le_of_ble_eq_true rfl, Nat.le_of_ble_eq_true rfl⟩ (fun v M1 H locs hq w => ?_)
                            obtain ⟨rfl, hM1⟩ := hq
                            rw [hM1] at w
                            clear hM1 M1
                            refine W.eq (g2 := F0 m 113 ls [.long (sC S (rowT S ta) (pp + i))]) rfl ?_
                            refine lv_aload_n hx hb dX4_match_113 rfl (lv_at hl 6 rfl) ?_
                            refine lv_iload_n hx hb dX4_match_114 rfl (lv_at hl 3 rfl) ?_
                            refine m_topi (y := nI tb) eb ?_
                            refine lv_iload hx hb dX4_match_115 (lv_at hl 4 rfl) ?_
                            refine m_topi (y := nI qq) eq ?_
                            refine lv_iload hx hb dX4_match_117 (lv_at hl 0 rfl) ?_
                            refine lv_iadd hx hb dX4_match_119 ?_
                            refine m_topi (y := nI (qq + i)) (by first | exact nI_add _ _ | exact nI_1 _) ?_
                            refine m_callV C w hl.1 (As := [.int (nI tb), .int (nI (qq + i))]) (rest := [.long (sC S (rowT S ta) (pp + i))]) (r_get l D y S0 M F m0 B fr nc cl go bf bf cn S hW hQ c0 hI tb htb h2b (qq + i) (by omega)) gX4_match_X4_get rfl hW.1 (T := TX4) (N := 16) rfl (show (_ = _ ∧ _ ≠ _ ∧ _ ≠ _ ∧ _ = some 2) by decide +kernel) ⟨Nat.le_of_ble_eq_true rfl, Nat.le_of_ble_eq_true rfl⟩ rfl (Nat.le_of_ble_eq_true rfl) dX4_match_120 ⟨Nat.le_of_ble_eq_true rfl, Nat.le_of_ble_eq_true rfl⟩ (fun v M1 H locs hq w => ?_)
                            obtain ⟨rfl, hM1⟩ := hq
                            rw [hM1] at w
                            clear hM1 M1
                            refine W.eq (g2 := F0 m 123 ls [.long (sC S (rowT S tb) (qq + i)), .long (sC S (rowT S ta) (pp + i))]) rfl ?_
                            refine W.lcmp hx hb dX4_match_123 ?_
                            refine lv_if_ne (tgt := 133) hx hb dX4_match_124 (by decide) (fun c_124 => ?_) (fun c_124 => ?_)
                            · skip
                              have n_124 := (not_congr (lg_cmp_eq _ _)).mp c_124
                              refine lv_iload hx hb dX4_match_133 (lv_at hl 0 rfl) ?_
                              exact m_iret C w dX4_match_135 (by omega) (by omega) (⟨by rw [hm]; exact congrArg (fun z => some (Value.int (nI z))) (ld_eq (by omega) hK (Or.inr (decide_eq_false n_124))).symm, rfl⟩)
                            · skip
                              have n_124 := (lg_cmp_eq _ _).mp c_124
                              refine lv_iinc (v := nI (i + 1)) (lv' := [(7, .int (nI (i + 1))), (1, .int a1), (2, .int p1), (3, .int b1), (4, .int q1), (5, .int n1), (0, .ref m0)]) hx hb dX4_match_127 hl (k := 0) rfl (by first | exact nI_1 _ | exact nI_add _ _ | rfl) (by decide) rfl (fun ls hl => ?_)
                              refine lv_goto (tgt := 72) hx hb dX4_match_130 (by decide) ?_
                              exact ih_lp (min nn (min (zT S ta - pp) (zT S tb - qq)) - (i + 1)) (by omega) (i + 1) (by omega) (fun x hx => by
                                  by_cases e : x = i
                                  · rw [e]; exact decide_eq_true n_124
                                  · exact hK x (by omega)) _ _ ls rfl w (lv_sub hl [0, 1, 2, 3, 4, 5, 6] rfl)
                  exact lp _ 0 (Nat.zero_le _) (fun x hx => by omega) _ _ ls rfl w (lv_sub hl [0, 3, 4, 5, 6, 7, 2] rfl)
                · skip
                  refine lv_bipush (v := (-4)) hx hb dX4_match_66 (by decide) ?_
                  exact m_iret C w dX4_match_68 (by omega) (by omega) (⟨by
                    rw [hm0]
                    unfold mat1
                    rw [if_neg (fun h => h (unl_ge c_27)), if_pos ?_]
                    unfold inP
                    rw [show decide (nI (zT S ta + 1) ≤ p1) = decide (nI (zT S ta) < p1) from decide_eq_decide.mpr (lt_s1 (by omega)).symm, show decide (nI (zT S tb + 1) ≤ q1) = decide (nI (zT S tb) < q1) from decide_eq_decide.mpr (lt_s1 (by omega)).symm]
                    (have c9 := Int32.not_le.mp c_63; simp [c9]), rfl⟩)
      · skip
        refine lv_iload hx hb dX4_match_30 (lv_at hl 0 rfl) ?_
        exact m_iret C w dX4_match_32 (by omega) (by omega) (⟨by rw [hm0]; unfold mat1; rw [if_pos (fun h => c_27 (by rw [h]; decide))], rfl⟩)
    · skip
      have n_11 : (inP b1 12) = false := bI_f c_11
      refine lv_bipush (v := (-6)) hx hb dX4_match_14 (by decide) ?_
      exact m_iret C w dX4_match_16 (by omega) (by omega) (⟨by unfold sp_match; rw [if_pos (by first | (simp [n_4, n_11]; done) | (simp [n_4]; done))], rfl⟩)
set_option maxRecDepth 100000 in
set_option maxHeartbeats 4000000 in
theorem r_lay (l : Launch) (D : va_G) (y : mY) (S0 : Nat) (M F : mp) (m0 : Nat) (B : Nat → Nat) (fr : Nat → Nat) (nc : Nat) (cl go bf : Nat → Int64) (cn : Nat → Int32) (S : St) (hW : MW y m0 B fr nc cl go bf cn S M) (hQ : MR fr nc cl bf cn S) (c0 : Nat) (hI : Inv c0 S) (t1 k1 n1 : Int32) : ct l yX4_lay wsX4_lay 2 42 0 0 D y S0 M F [.ref m0, .int t1, .int k1, .int n1] (fun v M' => v = some (.int (sp_lay S t1 k1 n1).1) ∧ RM y m0 (sp_lay S t1 k1 n1).2 M') := by
  refine ct_of cX4_lay 4 (some .int) [(0, .ref m0), (1, .int t1), (2, .int k1), (3, .int n1)] (by decide +kernel) rfl (Nat.le_of_ble_eq_true rfl) rfl ?_
  intro p e s m below meth c ls C hnm hl w
  have hx := C.1
  have hb := C.2.1
  have hi_X4 : ∀ w ∈ u_ws RX4 TX4 16, w ∈ wsX4_lay := by decide +kernel
  refine lv_iload_n hx hb dX4_lay_0 rfl (lv_at hl 1 rfl) ?_
  refine m_callS C w hl.1 (As := [.int t1]) (rest := []) (r_isTray l D y S0 M F t1) ggX4_lay_X4_isTray rfl (by decide +kernel) (by decide +kernel) (by decide +kernel) (show (_ ≠ _ ∧ _ ≠ _ ∧ _ = some 1) by decide +kernel) ⟨Nat.le_of_ble_eq_true rfl, Nat.le_of_ble_eq_true rfl⟩ rfl (Nat.le_of_ble_eq_true rfl) dX4_lay_1 ⟨Nat.le_of_ble_eq_true rfl, Nat.le_of_ble_eq_true rfl⟩ (fun v M1 H locs hq w => ?_)
  obtain ⟨rfl, hM1⟩ := hq
  rw [hM1] at w
  clear hM1 M1
  refine W.eq (g2 := F0 m 4 ls [.int (bI (inP t1 12))]) rfl ?_
  refine lv_if_eq (tgt := 27) hx hb dX4_lay_4 (by decide) (fun c_4 => ?_) (fun c_4 => ?_)
  · skip
    have n_4 : (inP t1 12) = false := bI_f c_4
    refine lv_bipush (v := (-6)) hx hb dX4_lay_27 (by decide) ?_
    exact m_iret C w dX4_lay_29 (by omega) (by omega) (⟨by rw [(show sp_lay S t1 k1 n1 = (-6, S) by unfold sp_lay; rw [if_neg (fun q => by simp only [Bool.and_eq_true] at q; first | (rw [n_4] at q; exact absurd q.1 (by decide)) | (rw [show kin k1 = false from n_14] at q; exact absurd q.2.1 (by decide)) | (rw [← inR_P (z := 64) (by omega), show inR n1 0 (nI 64) = false from n_24] at q; exact absurd q.2.2 (by decide)))])], by rw [(show sp_lay S t1 k1 n1 = (-6, S) by unfold sp_lay; rw [if_neg (fun q => by simp only [Bool.and_eq_true] at q; first | (rw [n_4] at q; exact absurd q.1 (by decide)) | (rw [show kin k1 = false from n_14] at q; exact absurd q.2.1 (by decide)) | (rw [← inR_P (z := 64) (by omega), show inR n1 0 (nI 64) = false from n_24] at q; exact absurd q.2.2 (by decide)))])]; exact ⟨B, fr, nc, cl, go, bf, cn, hW, hQ⟩⟩)
  · skip
    have n_4 : (inP t1 12) = true := bI_t c_4
    refine lv_iload_n hx hb dX4_lay_7 rfl (lv_at hl 2 rfl) ?_
    refine lv_iconst (v := 2) hx hb dX4_lay_8 (by decide) ?_
    refine lv_bipush (v := 13) hx hb dX4_lay_9 (by decide) ?_
    refine m_callS C w hl.1 (As := [.int k1, .int 2, .int 13]) (rest := []) (r_in l D y S0 M F k1 2 13) ggX4_lay_X4_in rfl (by decide +kernel) (by decide +kernel) (by decide +kernel) (show (_ ≠ _ ∧ _ ≠ _ ∧ _ = some 3) by decide +kernel) ⟨Nat.le_of_ble_eq_true rfl, Nat.le_of_ble_eq_true rfl⟩ rfl (Nat.le_of_ble_eq_true rfl) dX4_lay_11 ⟨Nat.le_of_ble_eq_true rfl, Nat.le_of_ble_eq_true rfl⟩ (fun v M1 H locs hq w => ?_)
    obtain ⟨rfl, hM1⟩ := hq
    rw [hM1] at w
    clear hM1 M1
    refine W.eq (g2 := F0 m 14 ls [.int (bI (inR k1 2 13))]) rfl ?_
    refine lv_if_eq (tgt := 27) hx hb dX4_lay_14 (by decide) (fun c_14 => ?_) (fun c_14 => ?_)
    · skip
      have n_14 : (inR k1 2 13) = false := bI_f c_14
      refine lv_bipush (v := (-6)) hx hb dX4_lay_27 (by decide) ?_
      exact m_iret C w dX4_lay_29 (by omega) (by omega) (⟨by rw [(show sp_lay S t1 k1 n1 = (-6, S) by unfold sp_lay; rw [if_neg (fun q => by simp only [Bool.and_eq_true] at q; first | (rw [n_4] at q; exact absurd q.1 (by decide)) | (rw [show kin k1 = false from n_14] at q; exact absurd q.2.1 (by decide)) | (rw [← inR_P (z := 64) (by omega), show inR n1 0 (nI 64) = false from n_24] at q; exact absurd q.2.2 (by decide)))])], by rw [(show sp_lay S t1 k1 n1 = (-6, S) by unfold sp_lay; rw [if_neg (fun q => by simp only [Bool.and_eq_true] at q; first | (rw [n_4] at q; exact absurd q.1 (by decide)) | (rw [show kin k1 = false from n_14] at q; exact absurd q.2.1 (by decide)) | (rw [← inR_P (z := 64) (by omega), show inR n1 0 (nI 64) = false from n_24] at q; exact absurd q.2.2 (by decide)))])]; exact ⟨B, fr, nc, cl, go, bf, cn, hW, hQ⟩⟩)
    · skip
      have n_14 : (inR k1 2 13) = true := bI_t c_14
      refine lv_iload_n hx hb dX4_lay_17 rfl (lv_at hl 3 rfl) ?_
      refine lv_iconst (v := 0) hx hb dX4_lay_18 (by decide) ?_
      refine lv_bipush (v := 64) hx hb dX4_lay_19 (by decide) ?_
      refine m_callS C w hl.1 (As := [.int n1, .int 0, .int 64]) (rest := []) (r_in l D y S0 M F n1 0 64) ggX4_lay_X4_in rfl (by decide +kernel) (by decide +kernel) (by decide +kernel) (show (_ ≠ _ ∧ _ ≠ _ ∧ _ = some 3) by decide +kernel) ⟨Nat.le_of_ble_eq_true rfl, Nat.le_of_ble_eq_true rfl⟩ rfl (Nat.le_of_ble_eq_true rfl) dX4_lay_21 ⟨Nat.le_of_ble_eq_true rfl, Nat.le_of_ble_eq_true rfl⟩ (fun v M1 H locs hq w => ?_)
      obtain ⟨rfl, hM1⟩ := hq
      rw [hM1] at w
      clear hM1 M1
      refine W.eq (g2 := F0 m 24 ls [.int (bI (inR n1 0 64))]) rfl ?_
      refine lv_if_ne (tgt := 30) hx hb dX4_lay_24 (by decide) (fun c_24 => ?_) (fun c_24 => ?_)
      · skip
        have n_24 : (inR n1 0 64) = true := bI_t c_24
        obtain ⟨t, ht, et⟩ := inP_t (by decide) n_4
        have hin : inR k1 2 13 = true := n_14
        unfold inR at hin
        simp only [Bool.and_eq_true, Bool.not_eq_true', decide_eq_false_iff_not] at hin
        obtain ⟨kk, hkk, ek⟩ := nI_of2 (M := 13) (n := 13) rfl (fun q => hin.1 (Int32.lt_trans q (by decide))) (Int32.not_lt.mp hin.2)
        have hk2 : 2 ≤ kk := Classical.byContradiction fun q => hin.1 (by rw [ek]; exact (nI_ltI (b := 2) (by omega) (by decide)).mpr (by omega))
        have hn65 : inP n1 65 = true := by rw [← inR_P (z := 64) (by omega)]; exact n_24
        obtain ⟨nn, hnn, en⟩ := inP_t (by decide) hn65
        have hb1 := hI.1
        have hb2 := hI.2.2.1
        have hq3 := hQ.2.2.1
        have hm : sp_lay S t1 k1 n1 = (nI nn, wTr (wRow S kk nn) (va_up (sH S) t kk) (va_up (sO S) t (nI (sN S)))) := by
          unfold sp_lay
          rw [if_pos (by rw [n_4, hn65]; unfold kin; simp [hin.1, hin.2]), et, ek, en, cN_nI (by omega), cN_nI (by omega), cN_nI (by omega)]
          rfl
        refine lv_aload_n hx hb dX4_lay_30 rfl (lv_at hl 0 rfl) ?_
        refine m_get C w hW.1 (index := 16) (T := TX4) (N := 16) rfl hi_X4 2 (by decide) (by decide +kernel) rfl dX4_lay_31 ?_
        refine lv_aload_n hx hb dX4_lay_34 rfl (lv_at hl 0 rfl) ?_
        refine m_get C w hW.1 (index := 63) (T := TX4) (N := 16) rfl hi_X4 6 (by decide) (by decide +kernel) rfl dX4_lay_35 ?_
        refine lv_iload_n hx hb dX4_lay_38 rfl (lv_at hl 2 rfl) ?_
        refine m_topi (y := nI kk) ek ?_
        refine m_iast C w hW.a2 (sN S) rfl (by omega) (by omega) dX4_lay_39 (fun H locs w => ?_)
        have hV1 := hW.set (nc' := nc) (fr' := fr) (cl' := cl) (go' := go) (bf' := bf) (cn' := cn) (S' := (mkS (sH S) (sO S) (sN S) (va_up (sK S) (sN S) kk) (sZ S) (sC S) (sP S) (sS S) (sL S) (sB S) (sF S) (sI S) (sT S))) 2 (by decide) rfl (by intro k hk hne; rcases (show k = 0 ∨ k = 1 ∨ k = 2 ∨ k = 3 ∨ k = 4 ∨ k = 5 ∨ k = 6 ∨ k = 7 ∨ k = 8 ∨ k = 9 ∨ k = 10 by omega) with rfl | rfl | rfl | rfl | rfl | rfl | rfl | rfl | rfl | rfl | rfl <;> first | rfl | exact absurd rfl hne) (congrArg (eI y 520) nI_up.symm)
        obtain ⟨N1, w, hV1⟩ : ∃ N, mS D S0 N F s H locs ∧ MW y m0 B fr nc cl go bf cn (mkS (sH S) (sO S) (sN S) (va_up (sK S) (sN S) kk) (sZ S) (sC S) (sP S) (sS S) (sL S) (sB S) (sF S) (sI S) (sT S)) N := ⟨_, w, hV1⟩
        refine lv_aload_n hx hb dX4_lay_40 rfl (lv_at hl 0 rfl) ?_
        refine m_get C w hV1.1 (index := 19) (T := TX4) (N := 16) rfl hi_X4 3 (by decide) (by decide +kernel) rfl dX4_lay_41 ?_
        refine lv_aload_n hx hb dX4_lay_44 rfl (lv_at hl 0 rfl) ?_
        refine m_get C w hV1.1 (index := 63) (T := TX4) (N := 16) rfl hi_X4 6 (by decide) (by decide +kernel) rfl dX4_lay_45 ?_
        refine lv_aload_n hx hb dX4_lay_48 rfl (lv_at hl 0 rfl) ?_
        refine m_get C w hV1.1 (index := 66) (T := TX4) (N := 16) rfl hi_X4 7 (by decide) (by decide +kernel) rfl dX4_lay_49 ?_
        refine m_iast C w hV1.a3 (sN S) rfl (by omega) (by omega) dX4_lay_52 (fun H locs w => ?_)
        have hV2 := hV1.set (nc' := nc) (fr' := (va_up fr (sN S) nc)) (cl' := cl) (go' := go) (bf' := bf) (cn' := cn) (S' := (mkS (sH S) (sO S) (sN S) (va_up (sK S) (sN S) kk) (sZ S) (sC S) (sP S) (sS S) (sL S) (sB S) (sF S) (sI S) (sT S))) 3 (by decide) rfl (by intro k hk hne; rcases (show k = 0 ∨ k = 1 ∨ k = 2 ∨ k = 3 ∨ k = 4 ∨ k = 5 ∨ k = 6 ∨ k = 7 ∨ k = 8 ∨ k = 9 ∨ k = 10 by omega) with rfl | rfl | rfl | rfl | rfl | rfl | rfl | rfl | rfl | rfl | rfl <;> first | rfl | exact absurd rfl hne) (congrArg (eI y 520) nI_up.symm)
        obtain ⟨N2, w, hV2⟩ : ∃ N, mS D S0 N F s H locs ∧ MW y m0 B (va_up fr (sN S) nc) nc cl go bf cn (mkS (sH S) (sO S) (sN S) (va_up (sK S) (sN S) kk) (sZ S) (sC S) (sP S) (sS S) (sL S) (sB S) (sF S) (sI S) (sT S)) N := ⟨_, w, hV2⟩
        refine lv_aload_n hx hb dX4_lay_53 rfl (lv_at hl 0 rfl) ?_
        refine m_get C w hV2.1 (index := 22) (T := TX4) (N := 16) rfl hi_X4 4 (by decide) (by decide +kernel) rfl dX4_lay_54 ?_
        refine lv_aload_n hx hb dX4_lay_57 rfl (lv_at hl 0 rfl) ?_
        refine m_get C w hV2.1 (index := 63) (T := TX4) (N := 16) rfl hi_X4 6 (by decide) (by decide +kernel) rfl dX4_lay_58 ?_
        refine lv_iload_n hx hb dX4_lay_61 rfl (lv_at hl 3 rfl) ?_
        refine m_topi (y := nI nn) en ?_
        refine m_iast C w hV2.a4 (sN S) rfl (by omega) (by omega) dX4_lay_62 (fun H locs w => ?_)
        have hV3 := hV2.set (nc' := nc) (fr' := (va_up fr (sN S) nc)) (cl' := cl) (go' := go) (bf' := bf) (cn' := cn) (S' := (mkS (sH S) (sO S) (sN S) (va_up (sK S) (sN S) kk) (va_up (sZ S) (sN S) nn) (sC S) (sP S) (sS S) (sL S) (sB S) (sF S) (sI S) (sT S))) 4 (by decide) rfl (by intro k hk hne; rcases (show k = 0 ∨ k = 1 ∨ k = 2 ∨ k = 3 ∨ k = 4 ∨ k = 5 ∨ k = 6 ∨ k = 7 ∨ k = 8 ∨ k = 9 ∨ k = 10 by omega) with rfl | rfl | rfl | rfl | rfl | rfl | rfl | rfl | rfl | rfl | rfl <;> first | rfl | exact absurd rfl hne) (congrArg (eI y 520) nI_up.symm)
        obtain ⟨N3, w, hV3⟩ : ∃ N, mS D S0 N F s H locs ∧ MW y m0 B (va_up fr (sN S) nc) nc cl go bf cn (mkS (sH S) (sO S) (sN S) (va_up (sK S) (sN S) kk) (va_up (sZ S) (sN S) nn) (sC S) (sP S) (sS S) (sL S) (sB S) (sF S) (sI S) (sT S)) N := ⟨_, w, hV3⟩
        refine lv_aload_n hx hb dX4_lay_63 rfl (lv_at hl 0 rfl) ?_
        refine m_get C w hV3.1 (index := 7) (T := TX4) (N := 16) rfl hi_X4 0 (by decide) (by decide +kernel) rfl dX4_lay_64 ?_
        refine lv_iload_n hx hb dX4_lay_67 rfl (lv_at hl 1 rfl) ?_
        refine m_topi (y := nI t) et ?_
        refine lv_iload_n hx hb dX4_lay_68 rfl (lv_at hl 2 rfl) ?_
        refine m_topi (y := nI kk) ek ?_
        refine m_iast C w hV3.a0 t rfl (by omega) (by omega) dX4_lay_69 (fun H locs w => ?_)
        have hV4 := hV3.set (nc' := nc) (fr' := (va_up fr (sN S) nc)) (cl' := cl) (go' := go) (bf' := bf) (cn' := cn) (S' := (mkS (va_up (sH S) t kk) (sO S) (sN S) (va_up (sK S) (sN S) kk) (va_up (sZ S) (sN S) nn) (sC S) (sP S) (sS S) (sL S) (sB S) (sF S) (sI S) (sT S))) 0 (by decide) rfl (by intro k hk hne; rcases (show k = 0 ∨ k = 1 ∨ k = 2 ∨ k = 3 ∨ k = 4 ∨ k = 5 ∨ k = 6 ∨ k = 7 ∨ k = 8 ∨ k = 9 ∨ k = 10 by omega) with rfl | rfl | rfl | rfl | rfl | rfl | rfl | rfl | rfl | rfl | rfl <;> first | rfl | exact absurd rfl hne) (congrArg (eI y 12) nI_up.symm)
        obtain ⟨N4, w, hV4⟩ : ∃ N, mS D S0 N F s H locs ∧ MW y m0 B (va_up fr (sN S) nc) nc cl go bf cn (mkS (va_up (sH S) t kk) (sO S) (sN S) (va_up (sK S) (sN S) kk) (va_up (sZ S) (sN S) nn) (sC S) (sP S) (sS S) (sL S) (sB S) (sF S) (sI S) (sT S)) N := ⟨_, w, hV4⟩
        refine lv_aload_n hx hb dX4_lay_70 rfl (lv_at hl 0 rfl) ?_
        refine m_get C w hV4.1 (index := 13) (T := TX4) (N := 16) rfl hi_X4 1 (by decide) (by decide +kernel) rfl dX4_lay_71 ?_
        refine lv_iload_n hx hb dX4_lay_74 rfl (lv_at hl 1 rfl) ?_
        refine m_topi (y := nI t) et ?_
        refine lv_aload_n hx hb dX4_lay_75 rfl (lv_at hl 0 rfl) ?_
        refine m_get C w hV4.1 (index := 63) (T := TX4) (N := 16) rfl hi_X4 6 (by decide) (by decide +kernel) rfl dX4_lay_76 ?_
        refine m_iast C w hV4.a1 t rfl (by omega) (by omega) dX4_lay_79 (fun H locs w => ?_)
        have hV5 := hV4.set (nc' := nc) (fr' := (va_up fr (sN S) nc)) (cl' := cl) (go' := go) (bf' := bf) (cn' := cn) (S' := (mkS (va_up (sH S) t kk) (va_up (sO S) t (nI (sN S))) (sN S) (va_up (sK S) (sN S) kk) (va_up (sZ S) (sN S) nn) (sC S) (sP S) (sS S) (sL S) (sB S) (sF S) (sI S) (sT S))) 1 (by decide) rfl (by intro k hk hne; rcases (show k = 0 ∨ k = 1 ∨ k = 2 ∨ k = 3 ∨ k = 4 ∨ k = 5 ∨ k = 6 ∨ k = 7 ∨ k = 8 ∨ k = 9 ∨ k = 10 by omega) with rfl | rfl | rfl | rfl | rfl | rfl | rfl | rfl | rfl | rfl | rfl <;> first | rfl | exact absurd rfl hne) rfl
        obtain ⟨N5, w, hV5⟩ : ∃ N, mS D S0 N F s H locs ∧ MW y m0 B (va_up fr (sN S) nc) nc cl go bf cn (mkS (va_up (sH S) t kk) (va_up (sO S) t (nI (sN S))) (sN S) (va_up (sK S) (sN S) kk) (va_up (sZ S) (sN S) nn) (sC S) (sP S) (sS S) (sL S) (sB S) (sF S) (sI S) (sT S)) N := ⟨_, w, hV5⟩
        refine lv_aload_n hx hb dX4_lay_80 rfl (lv_at hl 0 rfl) ?_
        refine lv_dup hx hb dX4_lay_81 rfl ?_
        refine m_get C w hV5.1 (index := 63) (T := TX4) (N := 16) rfl hi_X4 6 (by decide) (by decide +kernel) rfl dX4_lay_82 ?_
        refine lv_iconst (v := 1) hx hb dX4_lay_85 (by decide) ?_
        refine lv_iadd hx hb dX4_lay_86 ?_
        refine m_topi (y := nI ((sN S) + 1)) (by first | exact nI_add _ _ | exact nI_1 _) ?_
        refine m_put C w hV5.1 (v := .int (nI (sN S + 1))) (index := 63) (T := TX4) (N := 16) rfl hi_X4 tyX4 tyX4_ok nmX4 6 (by decide) (by decide +kernel) rfl (tyX4_ok 6 (by decide)) rfl rfl (Nat.le_of_ble_eq_true rfl) dX4_lay_87 (fun H locs w => ?_)
        obtain ⟨N6, e_N6⟩ : ∃ z, z = mu N5 m0 (eO 3 (mFl B nc (mkS (va_up (sH S) t kk) (va_up (sO S) t (nI (sN S))) (sN S + 1) (va_up (sK S) (sN S) kk) (va_up (sZ S) (sN S) nn) (sC S) (sP S) (sS S) (sL S) (sB S) (sF S) (sI S) (sT S)))) := ⟨_, rfl⟩
        have w : mS D S0 N6 F s H locs := by rw [e_N6]; exact w
        have hV6 : MW y m0 B (va_up fr (sN S) nc) nc cl go bf cn (mkS (va_up (sH S) t kk) (va_up (sO S) t (nI (sN S))) (sN S + 1) (va_up (sK S) (sN S) kk) (va_up (sZ S) (sN S) nn) (sC S) (sP S) (sS S) (sL S) (sB S) (sF S) (sI S) (sT S)) N6 := by rw [e_N6]; exact hV5.fld (by intro k hk; rcases (show k = 0 ∨ k = 1 ∨ k = 2 ∨ k = 3 ∨ k = 4 ∨ k = 5 ∨ k = 6 ∨ k = 7 ∨ k = 8 ∨ k = 9 ∨ k = 10 by omega) with rfl | rfl | rfl | rfl | rfl | rfl | rfl | rfl | rfl | rfl | rfl <;> rfl)
        refine lv_aload_n hx hb dX4_lay_90 rfl (lv_at hl 0 rfl) ?_
        refine lv_dup hx hb dX4_lay_91 rfl ?_
        refine m_get C w hV6.1 (index := 66) (T := TX4) (N := 16) rfl hi_X4 7 (by decide) (by decide +kernel) rfl dX4_lay_92 ?_
        refine lv_iload_n hx hb dX4_lay_95 rfl (lv_at hl 3 rfl) ?_
        refine m_topi (y := nI nn) en ?_
        refine lv_iadd hx hb dX4_lay_96 ?_
        refine m_topi (y := nI (nc + nn)) (by first | exact nI_add _ _ | exact nI_1 _) ?_
        refine m_put C w hV6.1 (v := .int (nI (nc + nn))) (index := 66) (T := TX4) (N := 16) rfl hi_X4 tyX4 tyX4_ok nmX4 7 (by decide) (by decide +kernel) rfl (tyX4_ok 7 (by decide)) rfl rfl (Nat.le_of_ble_eq_true rfl) dX4_lay_97 (fun H locs w => ?_)
        obtain ⟨N7, e_N7⟩ : ∃ z, z = mu N6 m0 (eO 3 (mFl B (nc + nn) (wTr (wRow S kk nn) (va_up (sH S) t kk) (va_up (sO S) t (nI (sN S)))))) := ⟨_, rfl⟩
        have w : mS D S0 N7 F s H locs := by rw [e_N7]; exact w
        have hV7 : MW y m0 B (va_up fr (sN S) nc) (nc + nn) cl go bf cn (wTr (wRow S kk nn) (va_up (sH S) t kk) (va_up (sO S) t (nI (sN S)))) N7 := by rw [e_N7]; exact hV6.fld (by intro k hk; rcases (show k = 0 ∨ k = 1 ∨ k = 2 ∨ k = 3 ∨ k = 4 ∨ k = 5 ∨ k = 6 ∨ k = 7 ∨ k = 8 ∨ k = 9 ∨ k = 10 by omega) with rfl | rfl | rfl | rfl | rfl | rfl | rfl | rfl | rfl | rfl | rfl <;> rfl)
        refine lv_iload_n hx hb dX4_lay_100 rfl (lv_at hl 3 rfl) ?_
        refine m_topi (y := nI nn) en ?_
        exact m_iret C w dX4_lay_101 (by omega) (by omega) (by
          rw [hm]
          refine ⟨rfl, B, (va_up fr (sN S) nc), nc + nn, cl, go, bf, cn, hV7, ?_, ?_, ?_, ?_, ?_, ?_, hQ.2.2.2.2.2.2⟩
          · intro r hr
            have hr : r < sN S + 1 := hr
            show va_up fr (sN S) nc r + va_up (sZ S) (sN S) nn r ≤ nc + nn
            by_cases e : r = sN S
            · rw [e, va_ups, va_ups]; omega
            · rw [va_upo e, va_upo e]; have := hQ.1 r (by omega); omega
          · intro r q hrq hq
            have hq : q < sN S + 1 := hq
            show va_up fr (sN S) nc r + va_up (sZ S) (sN S) nn r ≤ va_up fr (sN S) nc q
            rw [va_upo (show r ≠ sN S by omega), va_upo (show r ≠ sN S by omega)]
            by_cases e : q = sN S
            · rw [e, va_ups]; exact hQ.1 r (by omega)
            · rw [va_upo e]; exact hQ.2.1 r q hrq (by omega)
          · show nc + nn ≤ 64 * (sN S + 1)
            omega
          · intro x hx
            exact hQ.2.2.2.1 x (by omega)
          · intro r i hr hi
            have hr : r < sN S + 1 := hr
            have hi : i < va_up (sZ S) (sN S) nn r := hi
            show cl (va_up fr (sN S) nc r + i) = va_up (sC S) (sN S) (fun _ => 0) r i
            by_cases e : r = sN S
            · rw [e, va_ups, va_ups]; exact hQ.2.2.2.1 _ (by omega)
            · rw [va_upo e] at hi
              rw [va_upo e, va_upo e]; exact hQ.2.2.2.2.1 r i (by omega) hi
          · intro r i hr hi
            have hr' := (hI.2.2.2.2.2.2.2.1 r hr).1
            have hi : i < va_up (sZ S) (sN S) nn r := hi
            rw [va_upo (show r ≠ sN S by omega)] at hi
            exact hQ.2.2.2.2.2.1 r i hr hi)
      · skip
        have n_24 : (inR n1 0 64) = false := bI_f c_24
        refine lv_bipush (v := (-6)) hx hb dX4_lay_27 (by decide) ?_
        exact m_iret C w dX4_lay_29 (by omega) (by omega) (⟨by rw [(show sp_lay S t1 k1 n1 = (-6, S) by unfold sp_lay; rw [if_neg (fun q => by simp only [Bool.and_eq_true] at q; first | (rw [n_4] at q; exact absurd q.1 (by decide)) | (rw [show kin k1 = false from n_14] at q; exact absurd q.2.1 (by decide)) | (rw [← inR_P (z := 64) (by omega), show inR n1 0 (nI 64) = false from n_24] at q; exact absurd q.2.2 (by decide)))])], by rw [(show sp_lay S t1 k1 n1 = (-6, S) by unfold sp_lay; rw [if_neg (fun q => by simp only [Bool.and_eq_true] at q; first | (rw [n_4] at q; exact absurd q.1 (by decide)) | (rw [show kin k1 = false from n_14] at q; exact absurd q.2.1 (by decide)) | (rw [← inR_P (z := 64) (by omega), show inR n1 0 (nI 64) = false from n_24] at q; exact absurd q.2.2 (by decide)))])]; exact ⟨B, fr, nc, cl, go, bf, cn, hW, hQ⟩⟩)
set_option maxRecDepth 100000 in
set_option maxHeartbeats 4000000 in
theorem r_ticket (l : Launch) (D : va_G) (y : mY) (S0 : Nat) (M F : mp) (m0 : Nat) (B : Nat → Nat) (fr : Nat → Nat) (nc : Nat) (cl go bf : Nat → Int64) (cn : Nat → Int32) (S : St) (hW : MW y m0 B fr nc cl go bf cn S M) (hQ : MR fr nc cl bf cn S) (c0 : Nat) (hI : Inv c0 S) (t1 w1 n1 : Int32) : ct l yX4_ticket wsX4_ticket 2 42 0 0 D y S0 M F [.ref m0, .int t1, .int w1, .int n1] (fun v M' => v = some (.int (bI (sp_ticket S t1 w1 n1).1)) ∧ RM y m0 (sp_ticket S t1 w1 n1).2 M') := by
  refine ct_of cX4_ticket 4 (some .boolean) [(0, .ref m0), (1, .int t1), (2, .int w1), (3, .int n1)] (by decide +kernel) rfl (Nat.le_of_ble_eq_true rfl) rfl ?_
  intro p e s m below meth c ls C hnm hl w
  have hx := C.1
  have hb := C.2.1
  have hi_X4 : ∀ w ∈ u_ws RX4 TX4 16, w ∈ wsX4_ticket := by decide +kernel
  refine lv_iload_n hx hb dX4_ticket_0 rfl (lv_at hl 1 rfl) ?_
  refine m_callS C w hl.1 (As := [.int t1]) (rest := []) (r_isTray l D y S0 M F t1) ggX4_ticket_X4_isTray rfl (by decide +kernel) (by decide +kernel) (by decide +kernel) (show (_ ≠ _ ∧ _ ≠ _ ∧ _ = some 1) by decide +kernel) ⟨Nat.le_of_ble_eq_true rfl, Nat.le_of_ble_eq_true rfl⟩ rfl (Nat.le_of_ble_eq_true rfl) dX4_ticket_1 ⟨Nat.le_of_ble_eq_true rfl, Nat.le_of_ble_eq_true rfl⟩ (fun v M1 H locs hq w => ?_)
  obtain ⟨rfl, hM1⟩ := hq
  rw [hM1] at w
  clear hM1 M1
  refine W.eq (g2 := F0 m 4 ls [.int (bI (inP t1 12))]) rfl ?_
  refine lv_if_eq (tgt := 16) hx hb dX4_ticket_4 (by decide) (fun c_4 => ?_) (fun c_4 => ?_)
  · skip
    have n_4 : (inP t1 12) = false := bI_f c_4
    refine lv_iconst (v := 0) hx hb dX4_ticket_16 (by decide) ?_
    exact m_zret C w dX4_ticket_17 (by omega) (by omega) (by first | exact Or.inl rfl | exact Or.inr rfl | exact bI_or _) (⟨by rw [(show sp_ticket S t1 w1 n1 = (false, S) by unfold sp_ticket; rw [if_neg (fun q => by simp only [Bool.and_eq_true] at q; first | (rw [n_4] at q; exact absurd q.1 (by decide)) | (rw [← inR_P (z := 1) (by omega), show inR w1 0 (nI 1) = false from n_13] at q; exact absurd q.2 (by decide)))])]; rfl, by rw [(show sp_ticket S t1 w1 n1 = (false, S) by unfold sp_ticket; rw [if_neg (fun q => by simp only [Bool.and_eq_true] at q; first | (rw [n_4] at q; exact absurd q.1 (by decide)) | (rw [← inR_P (z := 1) (by omega), show inR w1 0 (nI 1) = false from n_13] at q; exact absurd q.2 (by decide)))])]; exact ⟨B, fr, nc, cl, go, bf, cn, hW, hQ⟩⟩)
  · skip
    have n_4 : (inP t1 12) = true := bI_t c_4
    refine lv_iload_n hx hb dX4_ticket_7 rfl (lv_at hl 2 rfl) ?_
    refine lv_iconst (v := 0) hx hb dX4_ticket_8 (by decide) ?_
    refine lv_iconst (v := 1) hx hb dX4_ticket_9 (by decide) ?_
    refine m_callS C w hl.1 (As := [.int w1, .int 0, .int 1]) (rest := []) (r_in l D y S0 M F w1 0 1) ggX4_ticket_X4_in rfl (by decide +kernel) (by decide +kernel) (by decide +kernel) (show (_ ≠ _ ∧ _ ≠ _ ∧ _ = some 3) by decide +kernel) ⟨Nat.le_of_ble_eq_true rfl, Nat.le_of_ble_eq_true rfl⟩ rfl (Nat.le_of_ble_eq_true rfl) dX4_ticket_10 ⟨Nat.le_of_ble_eq_true rfl, Nat.le_of_ble_eq_true rfl⟩ (fun v M1 H locs hq w => ?_)
    obtain ⟨rfl, hM1⟩ := hq
    rw [hM1] at w
    clear hM1 M1
    refine W.eq (g2 := F0 m 13 ls [.int (bI (inR w1 0 1))]) rfl ?_
    refine lv_if_ne (tgt := 18) hx hb dX4_ticket_13 (by decide) (fun c_13 => ?_) (fun c_13 => ?_)
    · skip
      have n_13 : (inR w1 0 1) = true := bI_t c_13
      obtain ⟨t, ht, et⟩ := inP_t (by decide) n_4
      have hw2 : inP w1 2 = true := by rw [← inR_P (z := 1) (by omega)]; exact n_13
      obtain ⟨wn, hwn, ew⟩ := inP_t (by decide) hw2
      have hm : sp_ticket S t1 w1 n1 = (true, wTr S (va_up (sH S) t wn) (va_up (sO S) t (if w1 = 1 then n1 else 0))) := by unfold sp_ticket; rw [if_pos (by rw [n_4, hw2]; rfl), et, cN_nI (by omega)]; rw [show cN w1 = wn by rw [ew]; exact cN_nI (by omega)]
      refine lv_aload_n hx hb dX4_ticket_18 rfl (lv_at hl 0 rfl) ?_
      refine m_get C w hW.1 (index := 7) (T := TX4) (N := 16) rfl hi_X4 0 (by decide) (by decide +kernel) rfl dX4_ticket_19 ?_
      refine lv_iload_n hx hb dX4_ticket_22 rfl (lv_at hl 1 rfl) ?_
      refine m_topi (y := nI t) et ?_
      refine lv_iload_n hx hb dX4_ticket_23 rfl (lv_at hl 2 rfl) ?_
      refine m_topi (y := nI wn) ew ?_
      refine m_iast C w hW.a0 t rfl (by omega) (by omega) dX4_ticket_24 (fun H locs w => ?_)
      have hV1 := hW.set (nc' := nc) (fr' := fr) (cl' := cl) (go' := go) (bf' := bf) (cn' := cn) (S' := (wTr S (va_up (sH S) t wn) (sO S))) 0 (by decide) rfl (by intro k hk hne; rcases (show k = 0 ∨ k = 1 ∨ k = 2 ∨ k = 3 ∨ k = 4 ∨ k = 5 ∨ k = 6 ∨ k = 7 ∨ k = 8 ∨ k = 9 ∨ k = 10 by omega) with rfl | rfl | rfl | rfl | rfl | rfl | rfl | rfl | rfl | rfl | rfl <;> first | rfl | exact absurd rfl hne) (congrArg (eI y 12) nI_up.symm)
      obtain ⟨N1, w, hV1⟩ : ∃ N, mS D S0 N F s H locs ∧ MW y m0 B fr nc cl go bf cn (wTr S (va_up (sH S) t wn) (sO S)) N := ⟨_, w, hV1⟩
      refine lv_aload_n hx hb dX4_ticket_25 rfl (lv_at hl 0 rfl) ?_
      refine m_get C w hV1.1 (index := 13) (T := TX4) (N := 16) rfl hi_X4 1 (by decide) (by decide +kernel) rfl dX4_ticket_26 ?_
      refine lv_iload_n hx hb dX4_ticket_29 rfl (lv_at hl 1 rfl) ?_
      refine m_topi (y := nI t) et ?_
      refine lv_iload_n hx hb dX4_ticket_30 rfl (lv_at hl 2 rfl) ?_
      refine m_topi (y := nI wn) ew ?_
      refine lv_iconst (v := 1) hx hb dX4_ticket_31 (by decide) ?_
      refine lv_icmp_ne (tgt := 39) hx hb dX4_ticket_32 (by decide) (fun c_32 => ?_) (fun c_32 => ?_)
      · skip
        have n_32 : ¬ wn = 1 := fun h => absurd ((nI_eq (by omega) (by omega)).mpr h) c_32
        refine lv_iconst (v := 0) hx hb dX4_ticket_39 (by decide) ?_
        obtain ⟨vx, evx⟩ : ∃ z : Int32, z = 0 := ⟨_, rfl⟩
        refine m_topi (y := vx) evx.symm ?_
        have hvx : vx = (if w1 = 1 then n1 else 0) := by rw [evx]; rw [if_neg (fun h => n_32 (by have h9 : nI wn = nI 1 := ew.symm.trans h; exact (nI_eq (by omega) (by omega)).mp h9))]
        refine m_iast C w hV1.a1 t rfl (by omega) (by omega) dX4_ticket_40 (fun H locs w => ?_)
        have hV2 := hV1.set (nc' := nc) (fr' := fr) (cl' := cl) (go' := go) (bf' := bf) (cn' := cn) (S' := (wTr S (va_up (sH S) t wn) (va_up (sO S) t vx))) 1 (by decide) rfl (by intro k hk hne; rcases (show k = 0 ∨ k = 1 ∨ k = 2 ∨ k = 3 ∨ k = 4 ∨ k = 5 ∨ k = 6 ∨ k = 7 ∨ k = 8 ∨ k = 9 ∨ k = 10 by omega) with rfl | rfl | rfl | rfl | rfl | rfl | rfl | rfl | rfl | rfl | rfl <;> first | rfl | exact absurd rfl hne) rfl
        obtain ⟨N2, w, hV2⟩ : ∃ N, mS D S0 N F s H locs ∧ MW y m0 B fr nc cl go bf cn (wTr S (va_up (sH S) t wn) (va_up (sO S) t vx)) N := ⟨_, w, hV2⟩
        refine lv_iconst (v := 1) hx hb dX4_ticket_41 (by decide) ?_
        exact m_zret C w dX4_ticket_42 (by omega) (by omega) (by first | exact Or.inl rfl | exact Or.inr rfl | exact bI_or _) (⟨by rw [hm]; rfl, by rw [hm, ← hvx]; exact ⟨B, fr, nc, cl, go, bf, cn, hV2, hQ⟩⟩)
      · skip
        have n_32 : wn = 1 := (nI_eq (by omega) (by omega)).mp (by first | exact c_32 | exact Classical.not_not.mp c_32)
        refine lv_iload_n hx hb dX4_ticket_35 rfl (lv_at hl 3 rfl) ?_
        refine lv_goto (tgt := 40) hx hb dX4_ticket_36 (by decide) ?_
        obtain ⟨vx, evx⟩ : ∃ z : Int32, z = n1 := ⟨_, rfl⟩
        refine m_topi (y := vx) evx.symm ?_
        have hvx : vx = (if w1 = 1 then n1 else 0) := by rw [evx]; rw [if_pos (by rw [ew, n_32]; rfl)]
        refine m_iast C w hV1.a1 t rfl (by omega) (by omega) dX4_ticket_40 (fun H locs w => ?_)
        have hV2 := hV1.set (nc' := nc) (fr' := fr) (cl' := cl) (go' := go) (bf' := bf) (cn' := cn) (S' := (wTr S (va_up (sH S) t wn) (va_up (sO S) t vx))) 1 (by decide) rfl (by intro k hk hne; rcases (show k = 0 ∨ k = 1 ∨ k = 2 ∨ k = 3 ∨ k = 4 ∨ k = 5 ∨ k = 6 ∨ k = 7 ∨ k = 8 ∨ k = 9 ∨ k = 10 by omega) with rfl | rfl | rfl | rfl | rfl | rfl | rfl | rfl | rfl | rfl | rfl <;> first | rfl | exact absurd rfl hne) rfl
        obtain ⟨N2, w, hV2⟩ : ∃ N, mS D S0 N F s H locs ∧ MW y m0 B fr nc cl go bf cn (wTr S (va_up (sH S) t wn) (va_up (sO S) t vx)) N := ⟨_, w, hV2⟩
        refine lv_iconst (v := 1) hx hb dX4_ticket_41 (by decide) ?_
        exact m_zret C w dX4_ticket_42 (by omega) (by omega) (by first | exact Or.inl rfl | exact Or.inr rfl | exact bI_or _) (⟨by rw [hm]; rfl, by rw [hm, ← hvx]; exact ⟨B, fr, nc, cl, go, bf, cn, hV2, hQ⟩⟩)
    · skip
      have n_13 : (inR w1 0 1) = false := bI_f c_13
      refine lv_iconst (v := 0) hx hb dX4_ticket_16 (by decide) ?_
      exact m_zret C w dX4_ticket_17 (by omega) (by omega) (by first | exact Or.inl rfl | exact Or.inr rfl | exact bI_or _) (⟨by rw [(show sp_ticket S t1 w1 n1 = (false, S) by unfold sp_ticket; rw [if_neg (fun q => by simp only [Bool.and_eq_true] at q; first | (rw [n_4] at q; exact absurd q.1 (by decide)) | (rw [← inR_P (z := 1) (by omega), show inR w1 0 (nI 1) = false from n_13] at q; exact absurd q.2 (by decide)))])]; rfl, by rw [(show sp_ticket S t1 w1 n1 = (false, S) by unfold sp_ticket; rw [if_neg (fun q => by simp only [Bool.and_eq_true] at q; first | (rw [n_4] at q; exact absurd q.1 (by decide)) | (rw [← inR_P (z := 1) (by omega), show inR w1 0 (nI 1) = false from n_13] at q; exact absurd q.2 (by decide)))])]; exact ⟨B, fr, nc, cl, go, bf, cn, hW, hQ⟩⟩)
set_option maxRecDepth 100000 in
set_option maxHeartbeats 4000000 in
theorem r_share (l : Launch) (D : va_G) (y : mY) (S0 : Nat) (M F : mp) (m0 : Nat) (B : Nat → Nat) (fr : Nat → Nat) (nc : Nat) (cl go bf : Nat → Int64) (cn : Nat → Int32) (S : St) (hW : MW y m0 B fr nc cl go bf cn S M) (hQ : MR fr nc cl bf cn S) (c0 : Nat) (hI : Inv c0 S) (a1 t1 : Int32) : ct l yX4_share wsX4_share 2 42 0 0 D y S0 M F [.ref m0, .int a1, .int t1] (fun v M' => v = some (.int (sp_share S a1 t1).1) ∧ RM y m0 (sp_share S a1 t1).2 M') := by
  refine ct_of cX4_share 3 (some .int) [(0, .ref m0), (1, .int a1), (2, .int t1)] (by decide +kernel) rfl (Nat.le_of_ble_eq_true rfl) rfl ?_
  intro p e s m below meth c ls C hnm hl w
  have hx := C.1
  have hb := C.2.1
  have hi_X4 : ∀ w ∈ u_ws RX4 TX4 16, w ∈ wsX4_share := by decide +kernel
  refine lv_iload_n hx hb dX4_share_0 rfl (lv_at hl 1 rfl) ?_
  refine m_callS C w hl.1 (As := [.int a1]) (rest := []) (r_isTray l D y S0 M F a1) ggX4_share_X4_isTray rfl (by decide +kernel) (by decide +kernel) (by decide +kernel) (show (_ ≠ _ ∧ _ ≠ _ ∧ _ = some 1) by decide +kernel) ⟨Nat.le_of_ble_eq_true rfl, Nat.le_of_ble_eq_true rfl⟩ rfl (Nat.le_of_ble_eq_true rfl) dX4_share_1 ⟨Nat.le_of_ble_eq_true rfl, Nat.le_of_ble_eq_true rfl⟩ (fun v M1 H locs hq w => ?_)
  obtain ⟨rfl, hM1⟩ := hq
  rw [hM1] at w
  clear hM1 M1
  refine W.eq (g2 := F0 m 4 ls [.int (bI (inP a1 12))]) rfl ?_
  refine lv_if_eq (tgt := 14) hx hb dX4_share_4 (by decide) (fun c_4 => ?_) (fun c_4 => ?_)
  · skip
    have n_4 : (inP a1 12) = false := bI_f c_4
    refine lv_bipush (v := (-6)) hx hb dX4_share_14 (by decide) ?_
    exact m_iret C w dX4_share_16 (by omega) (by omega) (⟨by rw [(show sp_share S a1 t1 = (-6, S) by unfold sp_share; rw [if_neg (by first | (simp [n_4, n_11]; done) | (simp [n_4]; done))])], by rw [(show sp_share S a1 t1 = (-6, S) by unfold sp_share; rw [if_neg (by first | (simp [n_4, n_11]; done) | (simp [n_4]; done))])]; exact ⟨B, fr, nc, cl, go, bf, cn, hW, hQ⟩⟩)
  · skip
    have n_4 : (inP a1 12) = true := bI_t c_4
    refine lv_iload_n hx hb dX4_share_7 rfl (lv_at hl 2 rfl) ?_
    refine m_callS C w hl.1 (As := [.int t1]) (rest := []) (r_isTray l D y S0 M F t1) ggX4_share_X4_isTray rfl (by decide +kernel) (by decide +kernel) (by decide +kernel) (show (_ ≠ _ ∧ _ ≠ _ ∧ _ = some 1) by decide +kernel) ⟨Nat.le_of_ble_eq_true rfl, Nat.le_of_ble_eq_true rfl⟩ rfl (Nat.le_of_ble_eq_true rfl) dX4_share_8 ⟨Nat.le_of_ble_eq_true rfl, Nat.le_of_ble_eq_true rfl⟩ (fun v M1 H locs hq w => ?_)
    obtain ⟨rfl, hM1⟩ := hq
    rw [hM1] at w
    clear hM1 M1
    refine W.eq (g2 := F0 m 11 ls [.int (bI (inP t1 12))]) rfl ?_
    refine lv_if_ne (tgt := 17) hx hb dX4_share_11 (by decide) (fun c_11 => ?_) (fun c_11 => ?_)
    · skip
      have n_11 : (inP t1 12) = true := bI_t c_11
      obtain ⟨ta, hta, ea⟩ := inP_t (by decide) n_4
      obtain ⟨tb, htb, eb⟩ := inP_t (by decide) n_11
      have hm : sp_share S a1 t1 = (nI (sH S ta), wTr S (va_up (sH S) tb (sH S ta)) (va_up (sO S) tb (sO S ta))) := by unfold sp_share; rw [if_pos (by rw [n_4, n_11]; rfl), ea, eb, cN_nI (by omega), cN_nI (by omega)]
      refine lv_aload_n hx hb dX4_share_17 rfl (lv_at hl 0 rfl) ?_
      refine m_get C w hW.1 (index := 7) (T := TX4) (N := 16) rfl hi_X4 0 (by decide) (by decide +kernel) rfl dX4_share_18 ?_
      refine lv_iload_n hx hb dX4_share_21 rfl (lv_at hl 2 rfl) ?_
      refine m_topi (y := nI tb) eb ?_
      refine lv_aload_n hx hb dX4_share_22 rfl (lv_at hl 0 rfl) ?_
      refine m_get C w hW.1 (index := 7) (T := TX4) (N := 16) rfl hi_X4 0 (by decide) (by decide +kernel) rfl dX4_share_23 ?_
      refine lv_iload_n hx hb dX4_share_26 rfl (lv_at hl 1 rfl) ?_
      refine m_topi (y := nI ta) ea ?_
      refine m_iald C w hW.a0 ta rfl (by omega) (by omega) dX4_share_27 ?_
      refine m_iast C w hW.a0 tb rfl (by omega) (by omega) dX4_share_28 (fun H locs w => ?_)
      have hV1 := hW.set (nc' := nc) (fr' := fr) (cl' := cl) (go' := go) (bf' := bf) (cn' := cn) (S' := (wTr S (va_up (sH S) tb (sH S ta)) (sO S))) 0 (by decide) rfl (by intro k hk hne; rcases (show k = 0 ∨ k = 1 ∨ k = 2 ∨ k = 3 ∨ k = 4 ∨ k = 5 ∨ k = 6 ∨ k = 7 ∨ k = 8 ∨ k = 9 ∨ k = 10 by omega) with rfl | rfl | rfl | rfl | rfl | rfl | rfl | rfl | rfl | rfl | rfl <;> first | rfl | exact absurd rfl hne) (congrArg (eI y 12) nI_up.symm)
      obtain ⟨N1, w, hV1⟩ : ∃ N, mS D S0 N F s H locs ∧ MW y m0 B fr nc cl go bf cn (wTr S (va_up (sH S) tb (sH S ta)) (sO S)) N := ⟨_, w, hV1⟩
      refine lv_aload_n hx hb dX4_share_29 rfl (lv_at hl 0 rfl) ?_
      refine m_get C w hV1.1 (index := 13) (T := TX4) (N := 16) rfl hi_X4 1 (by decide) (by decide +kernel) rfl dX4_share_30 ?_
      refine lv_iload_n hx hb dX4_share_33 rfl (lv_at hl 2 rfl) ?_
      refine m_topi (y := nI tb) eb ?_
      refine lv_aload_n hx hb dX4_share_34 rfl (lv_at hl 0 rfl) ?_
      refine m_get C w hV1.1 (index := 13) (T := TX4) (N := 16) rfl hi_X4 1 (by decide) (by decide +kernel) rfl dX4_share_35 ?_
      refine lv_iload_n hx hb dX4_share_38 rfl (lv_at hl 1 rfl) ?_
      refine m_topi (y := nI ta) ea ?_
      refine m_iald C w hV1.a1 ta rfl (by omega) (by omega) dX4_share_39 ?_
      refine m_iast C w hV1.a1 tb rfl (by omega) (by omega) dX4_share_40 (fun H locs w => ?_)
      have hV2 := hV1.set (nc' := nc) (fr' := fr) (cl' := cl) (go' := go) (bf' := bf) (cn' := cn) (S' := (wTr S (va_up (sH S) tb (sH S ta)) (va_up (sO S) tb (sO S ta)))) 1 (by decide) rfl (by intro k hk hne; rcases (show k = 0 ∨ k = 1 ∨ k = 2 ∨ k = 3 ∨ k = 4 ∨ k = 5 ∨ k = 6 ∨ k = 7 ∨ k = 8 ∨ k = 9 ∨ k = 10 by omega) with rfl | rfl | rfl | rfl | rfl | rfl | rfl | rfl | rfl | rfl | rfl <;> first | rfl | exact absurd rfl hne) rfl
      obtain ⟨N2, w, hV2⟩ : ∃ N, mS D S0 N F s H locs ∧ MW y m0 B fr nc cl go bf cn (wTr S (va_up (sH S) tb (sH S ta)) (va_up (sO S) tb (sO S ta))) N := ⟨_, w, hV2⟩
      refine lv_aload_n hx hb dX4_share_41 rfl (lv_at hl 0 rfl) ?_
      refine m_get C w hV2.1 (index := 7) (T := TX4) (N := 16) rfl hi_X4 0 (by decide) (by decide +kernel) rfl dX4_share_42 ?_
      refine lv_iload_n hx hb dX4_share_45 rfl (lv_at hl 2 rfl) ?_
      refine m_topi (y := nI tb) eb ?_
      refine m_iald C w hV2.a0 tb rfl (by omega) (by omega) dX4_share_46 ?_
      exact m_iret C w dX4_share_47 (by omega) (by omega) (⟨by rw [hm]; exact congrArg (fun z => some (Value.int (nI z))) va_ups, by rw [hm]; exact ⟨B, fr, nc, cl, go, bf, cn, hV2, hQ⟩⟩)
    · skip
      have n_11 : (inP t1 12) = false := bI_f c_11
      refine lv_bipush (v := (-6)) hx hb dX4_share_14 (by decide) ?_
      exact m_iret C w dX4_share_16 (by omega) (by omega) (⟨by rw [(show sp_share S a1 t1 = (-6, S) by unfold sp_share; rw [if_neg (by first | (simp [n_4, n_11]; done) | (simp [n_4]; done))])], by rw [(show sp_share S a1 t1 = (-6, S) by unfold sp_share; rw [if_neg (by first | (simp [n_4, n_11]; done) | (simp [n_4]; done))])]; exact ⟨B, fr, nc, cl, go, bf, cn, hW, hQ⟩⟩)
