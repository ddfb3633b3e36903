theorem inR_1012 {k : Nat} (h2 : 2 ≤ k) (h13 : k ≤ 13) : inR (nI k) 10 12 = !(isN k || decide (k = 13)) := by
  unfold inR isN
  have h1 : decide (nI k < 10) = decide (k < 10) := decide_eq_decide.mpr (nI_ltI (b := 10) (by omega) (by decide))
  have h2 : decide ((12 : Int32) < nI k) = decide (12 < k) := decide_eq_decide.mpr (nI_ltI (a := 12) (by decide) (by omega))
  rw [h1, h2]
  rcases (show k = 2 ∨ k = 3 ∨ k = 4 ∨ k = 5 ∨ k = 6 ∨ k = 7 ∨ k = 8 ∨ k = 9 ∨ k = 10 ∨ k = 11 ∨ k = 12 ∨ k = 13 by omega) with rfl | rfl | rfl | rfl | rfl | rfl | rfl | rfl | rfl | rfl | rfl | rfl <;> rfl
set_option maxRecDepth 100000 in
set_option maxHeartbeats 4000000 in
theorem r_put (l : Launch) (D : va_G) (y : mY) (S0 : Nat) (M F : mp) (m0 : Nat) (B : Nat → Nat) (fr : Nat → Nat) (nc : Nat) (cl go bf : Nat → Int64) (cn : Nat → Int32) (S : St) (hW : MW y m0 B fr nc cl go bf cn S M) (hQ : MR fr nc cl bf cn S) (c0 : Nat) (hI : Inv c0 S) (hc0 : c0 + 1 ≤ 512) (t1 i1 v1 : Int32) : ct l yX4_put wsX4_put 3 66 0 0 D y S0 M F [.ref m0, .int t1, .int i1, .int v1] (fun v M' => v = some (.int (sp_put S t1 i1 v1).1) ∧ RM y m0 (sp_put S t1 i1 v1).2 M') := by
  refine ct_of cX4_put 7 (some .int) [(0, .ref m0), (1, .int t1), (2, .int i1), (3, .int v1)] (by decide +kernel) rfl (Nat.le_of_ble_eq_true rfl) rfl ?_
  intro p e s m below meth c ls C hnm hl w
  have hx := C.1
  have hb := C.2.1
  have hi_X4 : ∀ w ∈ u_ws RX4 TX4 16, w ∈ wsX4_put := by decide +kernel
  refine lv_iload_n hx hb dX4_put_0 rfl (lv_at hl 1 rfl) ?_
  refine m_callS C w hl.1 (As := [.int t1]) (rest := []) (r_isTray l D y S0 M F t1) ggX4_put_X4_isTray rfl (by decide +kernel) (by decide +kernel) (by decide +kernel) (show (_ ≠ _ ∧ _ ≠ _ ∧ _ = some 1) by decide +kernel) ⟨Nat.le_of_ble_eq_true rfl, Nat.le_of_ble_eq_true rfl⟩ rfl (Nat.le_of_ble_eq_true rfl) dX4_put_1 ⟨Nat.le_of_ble_eq_true rfl, Nat.le_of_ble_eq_true rfl⟩ (fun v M1 H locs hq w => ?_)
  obtain ⟨rfl, hM1⟩ := hq
  rw [hM1] at w
  clear hM1 M1
  refine W.eq (g2 := F0 m 4 ls [.int (bI (inP t1 12))]) rfl ?_
  refine lv_if_ne (tgt := 10) hx hb dX4_put_4 (by decide) (fun c_4 => ?_) (fun c_4 => ?_)
  · skip
    have n_4 : (inP t1 12) = true := bI_t c_4
    obtain ⟨t, ht, et⟩ := inP_t (by decide) n_4
    have hz := zT_le hI ht
    have hk13 := (hI.2.2.2.2.2.2.1 t ht).1
    have hb1 := hI.1
    have hb2 := hI.2.1
    have hb3 := hI.2.2.1
    have hm0 : sp_put S t1 i1 v1 = if sH S t < 2 then (fR (sH S t), S) else put1 (thg S (sH S t) v1).2 t i1 (thg S (sH S t) v1).1 := by unfold sp_put; rw [if_neg (by simp [n_4]), et, cN_nI (by omega)]
    refine lv_aload_n hx hb dX4_put_10 rfl (lv_at hl 0 rfl) ?_
    refine lv_iload_n hx hb dX4_put_11 rfl (lv_at hl 1 rfl) ?_
    refine m_topi (y := nI t) et ?_
    refine m_callV C w hl.1 (As := [.int (nI t)]) (rest := []) (r_isRow l D y S0 M F m0 B fr nc cl go bf bf cn S hW hQ c0 hI t ht) gX4_put_X4_isRow rfl hW.1 (T := TX4) (N := 16) rfl (show (_ = _ ∧ _ ≠ _ ∧ _ ≠ _ ∧ _ = some 1) by decide +kernel) ⟨Nat.le_of_ble_eq_true rfl, Nat.le_of_ble_eq_true rfl⟩ rfl (Nat.le_of_ble_eq_true rfl) dX4_put_12 ⟨Nat.le_of_ble_eq_true rfl, Nat.le_of_ble_eq_true rfl⟩ (fun v M1 H locs hq w => ?_)
    obtain ⟨rfl, hM1⟩ := hq
    rw [hM1] at w
    clear hM1 M1
    refine W.eq (g2 := F0 m 15 ls [.int (bI (decide (2 ≤ sH S t)))]) rfl ?_
    refine lv_if_ne (tgt := 24) hx hb dX4_put_15 (by decide) (fun c_15 => ?_) (fun c_15 => ?_)
    · skip
      have n_15 : (decide (2 ≤ sH S t)) = true := bI_t c_15
      have h2 : 2 ≤ sH S t := of_decide_eq_true n_15
      obtain ⟨eo, hr, ekd, hr5, hzT⟩ := rowI hI ht h2
      refine lv_aload_n hx hb dX4_put_24 rfl (lv_at hl 0 rfl) ?_
      refine m_get C w hW.1 (index := 7) (T := TX4) (N := 16) rfl hi_X4 0 (by decide) (by decide +kernel) rfl dX4_put_25 ?_
      refine lv_iload_n hx hb dX4_put_28 rfl (lv_at hl 1 rfl) ?_
      refine m_topi (y := nI t) et ?_
      refine m_iald C w hW.a0 t rfl (by omega) (by omega) dX4_put_29 ?_
      refine lv_istore (lv' := [(4, .int (nI (sH S t))), (0, .ref m0), (1, .int t1), (2, .int i1), (3, .int v1)]) hx hb dX4_put_30 hl (by decide) rfl (fun ls hl => ?_)
      refine lv_lconst (v := 0) hx hb dX4_put_32 (by decide) ?_
      refine lv_lstore (lv' := [(5, .long 0), (4, .int (nI (sH S t))), (0, .ref m0), (1, .int t1), (2, .int i1), (3, .int v1)]) hx hb dX4_put_33 hl (by decide) rfl (fun ls hl => ?_)
      refine lv_iload hx hb dX4_put_35 (lv_at hl 1 rfl) ?_
      refine m_callS C w hl.1 (As := [.int (nI (sH S t))]) (rest := []) (r_isN l D y S0 M F (sH S t) (by omega)) ggX4_put_X4_isNumbers rfl (by decide +kernel) (by decide +kernel) (by decide +kernel) (show (_ ≠ _ ∧ _ ≠ _ ∧ _ = some 1) by decide +kernel) ⟨Nat.le_of_ble_eq_true rfl, Nat.le_of_ble_eq_true rfl⟩ rfl (Nat.le_of_ble_eq_true rfl) dX4_put_37 ⟨Nat.le_of_ble_eq_true rfl, Nat.le_of_ble_eq_true rfl⟩ (fun v M1 H locs hq w => ?_)
      obtain ⟨rfl, hM1⟩ := hq
      rw [hM1] at w
      clear hM1 M1
      refine W.eq (g2 := F0 m 40 ls [.int (bI (isN (sH S t)))]) rfl ?_
      refine lv_if_eq (tgt := 54) hx hb dX4_put_40 (by decide) (fun c_40 => ?_) (fun c_40 => ?_)
      · skip
        have n_40 : (isN (sH S t)) = false := bI_f c_40
        refine lv_iload hx hb dX4_put_54 (lv_at hl 1 rfl) ?_
        refine lv_bipush (v := 13) hx hb dX4_put_56 (by decide) ?_
        refine lv_icmp_ne (tgt := 99) hx hb dX4_put_58 (by decide) (fun c_58 => ?_) (fun c_58 => ?_)
        · skip
          have n_58 : ¬ (sH S t) = 13 := fun h => absurd ((nI_eq (by omega) (by omega)).mpr h) c_58
          refine lv_aload_n hx hb dX4_put_99 rfl (lv_at hl 2 rfl) ?_
          refine lv_iload_n hx hb dX4_put_100 rfl (lv_at hl 5 rfl) ?_
          refine m_callV C w hl.1 (As := [.int v1]) (rest := []) (r_made l D y S0 M F m0 B fr nc cl go bf bf cn S hW hQ c0 hI v1) gX4_put_X4_made rfl hW.1 (T := TX4) (N := 16) rfl (show (_ = _ ∧ _ ≠ _ ∧ _ ≠ _ ∧ _ = some 1) by decide +kernel) ⟨Nat.le_of_ble_eq_true rfl, Nat.le_of_ble_eq_true rfl⟩ rfl (Nat.le_of_ble_eq_true rfl) dX4_put_101 ⟨Nat.le_of_ble_eq_true rfl, Nat.le_of_ble_eq_true rfl⟩ (fun v M1 H locs hq w => ?_)
          obtain ⟨rfl, hW1, hQ1⟩ := hq
          refine W.eq (g2 := F0 m 104 ls [.long ((mkP S v1).1)]) rfl ?_
          refine lv_lstore (lv' := [(5, .long ((mkP S v1).1)), (4, .int (nI (sH S t))), (0, .ref m0), (1, .int t1), (2, .int i1), (3, .int v1)]) hx hb dX4_put_104 hl (by decide) rfl (fun ls hl => ?_)
          have hT : thg S (sH S t) v1 = ((mkP S v1).1, (mkP S v1).2) := by unfold thg; rw [if_neg (by rw [n_40]; decide), if_neg n_58]
          obtain ⟨hI2, hval⟩ := inv_thg hI hc0 h2 hk13 v1
          have hH := thg_H S (sH S t) v1
          obtain ⟨S2, eS2⟩ : ∃ z, z = (thg S (sH S t) v1).2 := ⟨_, rfl⟩
          obtain ⟨x2, ex2⟩ : ∃ z, z = (thg S (sH S t) v1).1 := ⟨_, rfl⟩
          rw [if_neg (by omega), ← eS2, ← ex2] at hm0
          rw [← eS2] at hI2 hval hH
          rw [← ex2] at hval
          obtain ⟨eH, eO2, eN, eK, eZ, eC⟩ := hH
          have eHt : sH S2 t = sH S t := congrFun eH t
          have hWc : MW y m0 B fr nc cl go bf cn S2 M1 := by rw [eS2, hT]; exact hW1
          have hQc : MR fr nc cl bf cn S2 := by rw [eS2, hT]; exact hQ1
          have hxx : (mkP S v1).1 = x2 := by rw [ex2, hT]
          have hz2 := zT_le hI2 ht
          have h22 : 2 ≤ sH S2 t := by rw [eHt]; exact h2
          obtain ⟨eo2, hr2, ekd2, -, hzT2⟩ := rowI hI2 ht h22
          refine lv_iload_n hx hb dX4_put_106 rfl (lv_at hl 4 rfl) ?_
          refine lv_iconst (v := 0) hx hb dX4_put_107 (by decide) ?_
          refine lv_aload_n hx hb dX4_put_108 rfl (lv_at hl 2 rfl) ?_
          refine lv_iload_n hx hb dX4_put_109 rfl (lv_at hl 3 rfl) ?_
          refine m_topi (y := nI t) et ?_
          refine m_callV C w hl.1 (As := [.int (nI t)]) (rest := [.int 0, .int i1]) (r_sizeOf l D y S0 M1 F m0 B fr nc cl go bf bf cn S2 hWc hQc (c0 + 1) hI2 t ht) gX4_put_X4_sizeOf rfl hWc.1 (T := TX4) (N := 16) rfl (show (_ = _ ∧ _ ≠ _ ∧ _ ≠ _ ∧ _ = some 1) by decide +kernel) ⟨Nat.le_of_ble_eq_true rfl, Nat.le_of_ble_eq_true rfl⟩ rfl (Nat.le_of_ble_eq_true rfl) dX4_put_110 ⟨Nat.le_of_ble_eq_true rfl, Nat.le_of_ble_eq_true rfl⟩ (fun v M1 H locs hq w => ?_)
          obtain ⟨rfl, hM1⟩ := hq
          rw [hM1] at w
          clear hM1 M1
          refine W.eq (g2 := F0 m 113 ls [.int (nI (zT S2 t)), .int 0, .int i1]) rfl ?_
          refine lv_iconst (v := 1) hx hb dX4_put_113 (by decide) ?_
          refine lv_isub hx hb dX4_put_114 ?_
          refine m_callS C w hl.1 (As := [.int i1, .int 0, .int ((nI (zT S2 t)) - 1)]) (rest := []) (r_in l D y S0 M1 F i1 0 (nI (zT S2 t) - 1)) ggX4_put_X4_in rfl (by decide +kernel) (by decide +kernel) (by decide +kernel) (show (_ ≠ _ ∧ _ ≠ _ ∧ _ = some 3) by decide +kernel) ⟨Nat.le_of_ble_eq_true rfl, Nat.le_of_ble_eq_true rfl⟩ rfl (Nat.le_of_ble_eq_true rfl) dX4_put_115 ⟨Nat.le_of_ble_eq_true rfl, Nat.le_of_ble_eq_true rfl⟩ (fun v M1 H locs hq w => ?_)
          rw [inR_m1 (by omega)] at hq
          obtain ⟨rfl, hM1⟩ := hq
          rw [hM1] at w
          clear hM1 M1
          refine W.eq (g2 := F0 m 118 ls [.int (bI (inP i1 (zT S2 t)))]) rfl ?_
          refine lv_if_ne (tgt := 124) hx hb dX4_put_118 (by decide) (fun c_118 => ?_) (fun c_118 => ?_)
          · skip
            have n_118 : (inP i1 (zT S2 t)) = true := bI_t c_118
            obtain ⟨i, hi, ei⟩ := inP_t (by omega) n_118
            refine lv_aload_n hx hb dX4_put_124 rfl (lv_at hl 2 rfl) ?_
            refine lv_iload hx hb dX4_put_125 (lv_at hl 1 rfl) ?_
            refine lv_lload hx hb dX4_put_127 (lv_at hl 0 rfl) ?_
            refine m_topl (y := x2) hxx ?_
            refine m_callV C w hl.1 (As := [.int (nI (sH S t)), .long x2]) (rest := []) (r_goes l D y S0 M1 F m0 B fr nc cl go bf bf cn S2 hWc hQc (c0 + 1) hI2 (sH S t) (by omega) x2 (val_go hI2 hval h2 h2 (fun q => q.2 rfl))) gX4_put_X4_goes rfl hWc.1 (T := TX4) (N := 16) rfl (show (_ = _ ∧ _ ≠ _ ∧ _ ≠ _ ∧ _ = some 2) by decide +kernel) ⟨Nat.le_of_ble_eq_true rfl, Nat.le_of_ble_eq_true rfl⟩ rfl (Nat.le_of_ble_eq_true rfl) dX4_put_129 ⟨Nat.le_of_ble_eq_true rfl, Nat.le_of_ble_eq_true rfl⟩ (fun v M1 H locs hq w => ?_)
            obtain ⟨rfl, hM1⟩ := hq
            rw [hM1] at w
            clear hM1 M1
            refine W.eq (g2 := F0 m 132 ls [.int (bI (gs S2 (sH S t) x2))]) rfl ?_
            refine lv_if_ne (tgt := 138) hx hb dX4_put_132 (by decide) (fun c_132 => ?_) (fun c_132 => ?_)
            · skip
              have n_132 : (gs S2 (sH S t) x2) = true := bI_t c_132
              refine lv_aload_n hx hb dX4_put_138 rfl (lv_at hl 2 rfl) ?_
              refine lv_iload_n hx hb dX4_put_139 rfl (lv_at hl 3 rfl) ?_
              refine m_topi (y := nI t) et ?_
              refine lv_iload_n hx hb dX4_put_140 rfl (lv_at hl 4 rfl) ?_
              refine m_topi (y := nI i) ei ?_
              refine lv_lload hx hb dX4_put_141 (lv_at hl 0 rfl) ?_
              refine m_topl (y := x2) hxx ?_
              refine m_callV C w hl.1 (As := [.int (nI t), .int (nI i), .long x2]) (rest := []) (r_set l D y S0 M1 F m0 B fr nc cl go bf bf cn S2 hWc hQc (c0 + 1) hI2 t ht h22 i hi x2) gX4_put_X4_set rfl hWc.1 (T := TX4) (N := 16) rfl (show (_ = _ ∧ _ ≠ _ ∧ _ ≠ _ ∧ _ = some 3) by decide +kernel) ⟨Nat.le_of_ble_eq_true rfl, Nat.le_of_ble_eq_true rfl⟩ rfl (Nat.le_of_ble_eq_true rfl) dX4_put_143 ⟨Nat.le_of_ble_eq_true rfl, Nat.le_of_ble_eq_true rfl⟩ (fun v M1 H locs hq w => ?_)
              obtain ⟨rfl, hW9, hQ9⟩ := hq
              refine W.eq (g2 := F0 m 146 ls []) rfl ?_
              refine lv_iconst (v := 1) hx hb dX4_put_146 (by decide) ?_
              exact m_iret C w dX4_put_147 (by omega) (by omega) (⟨by rw [hm0, (show put1 S2 t i1 x2 = (1, pRC S2 (rowT S2 t) i x2) by unfold put1; rw [if_neg (by rw [n_118]; decide), if_neg (by rw [eHt, n_132]; decide), ei, cN_nI (by omega)])], by rw [hm0, (show put1 S2 t i1 x2 = (1, pRC S2 (rowT S2 t) i x2) by unfold put1; rw [if_neg (by rw [n_118]; decide), if_neg (by rw [eHt, n_132]; decide), ei, cN_nI (by omega)])]; exact ⟨B, fr, nc, _, go, bf, cn, hW9, hQ9⟩⟩)
            · skip
              have n_132 : (gs S2 (sH S t) x2) = false := bI_f c_132
              refine lv_bipush (v := (-3)) hx hb dX4_put_135 (by decide) ?_
              exact m_iret C w dX4_put_137 (by omega) (by omega) (⟨by rw [hm0, (show put1 S2 t i1 x2 = (-3, S2) by unfold put1; rw [if_neg (by rw [n_118]; decide), if_pos (by rw [eHt]; exact n_132)])], by rw [hm0, (show put1 S2 t i1 x2 = (-3, S2) by unfold put1; rw [if_neg (by rw [n_118]; decide), if_pos (by rw [eHt]; exact n_132)])]; exact ⟨B, fr, nc, cl, go, bf, cn, hWc, hQc⟩⟩)
          · skip
            have n_118 : (inP i1 (zT S2 t)) = false := bI_f c_118
            refine lv_bipush (v := (-4)) hx hb dX4_put_121 (by decide) ?_
            exact m_iret C w dX4_put_123 (by omega) (by omega) (⟨by rw [hm0, (show put1 S2 t i1 x2 = (-4, S2) by unfold put1; rw [if_pos n_118])], by rw [hm0, (show put1 S2 t i1 x2 = (-4, S2) by unfold put1; rw [if_pos n_118])]; exact ⟨B, fr, nc, cl, go, bf, cn, hWc, hQc⟩⟩)
        · skip
          have n_58 : (sH S t) = 13 := (nI_eq (by omega) (by omega)).mp (by first | exact c_58 | exact Classical.not_not.mp c_58)
          refine lv_iload_n hx hb dX4_put_61 rfl (lv_at hl 5 rfl) ?_
          refine m_callS C w hl.1 (As := [.int v1]) (rest := []) (r_isTray l D y S0 M F v1) ggX4_put_X4_isTray rfl (by decide +kernel) (by decide +kernel) (by decide +kernel) (show (_ ≠ _ ∧ _ ≠ _ ∧ _ = some 1) by decide +kernel) ⟨Nat.le_of_ble_eq_true rfl, Nat.le_of_ble_eq_true rfl⟩ rfl (Nat.le_of_ble_eq_true rfl) dX4_put_62 ⟨Nat.le_of_ble_eq_true rfl, Nat.le_of_ble_eq_true rfl⟩ (fun v M1 H locs hq w => ?_)
          obtain ⟨rfl, hM1⟩ := hq
          rw [hM1] at w
          clear hM1 M1
          refine W.eq (g2 := F0 m 65 ls [.int (bI (inP v1 12))]) rfl ?_
          refine lv_if_eq (tgt := 93) hx hb dX4_put_65 (by decide) (fun c_65 => ?_) (fun c_65 => ?_)
          · skip
            have n_65 : (inP v1 12) = false := bI_f c_65
            refine lv_lconst (v := 0) hx hb dX4_put_93 (by decide) ?_
            refine lv_lstore (lv' := [(5, .long 0), (4, .int (nI (sH S t))), (0, .ref m0), (1, .int t1), (2, .int i1), (3, .int v1)]) hx hb dX4_put_94 hl (by decide) rfl (fun ls hl => ?_)
            refine lv_goto (tgt := 106) hx hb dX4_put_96 (by decide) ?_
            have hT : thg S (sH S t) v1 = (0, S) := by unfold thg; rw [if_neg (by rw [n_40]; decide), if_pos n_58, if_neg (by first | (rw [ev, cN_nI (by omega)]; simp [n_76]; done) | (simp [n_65]; done))]
            obtain ⟨hI2, hval⟩ := inv_thg hI hc0 h2 hk13 v1
            have hH := thg_H S (sH S t) v1
            obtain ⟨S2, eS2⟩ : ∃ z, z = (thg S (sH S t) v1).2 := ⟨_, rfl⟩
            obtain ⟨x2, ex2⟩ : ∃ z, z = (thg S (sH S t) v1).1 := ⟨_, rfl⟩
            rw [if_neg (by omega), ← eS2, ← ex2] at hm0
            rw [← eS2] at hI2 hval hH
            rw [← ex2] at hval
            obtain ⟨eH, eO2, eN, eK, eZ, eC⟩ := hH
            have eHt : sH S2 t = sH S t := congrFun eH t
            have hWc : MW y m0 B fr nc cl go bf cn S2 M := by rw [eS2, hT]; exact hW
            have hQc : MR fr nc cl bf cn S2 := by rw [eS2, hT]; exact hQ
            have hxx : 0 = x2 := by rw [ex2, hT]
            have hz2 := zT_le hI2 ht
            have h22 : 2 ≤ sH S2 t := by rw [eHt]; exact h2
            obtain ⟨eo2, hr2, ekd2, -, hzT2⟩ := rowI hI2 ht h22
            refine lv_iload_n hx hb dX4_put_106 rfl (lv_at hl 4 rfl) ?_
            refine lv_iconst (v := 0) hx hb dX4_put_107 (by decide) ?_
            refine lv_aload_n hx hb dX4_put_108 rfl (lv_at hl 2 rfl) ?_
            refine lv_iload_n hx hb dX4_put_109 rfl (lv_at hl 3 rfl) ?_
            refine m_topi (y := nI t) et ?_
            refine m_callV C w hl.1 (As := [.int (nI t)]) (rest := [.int 0, .int i1]) (r_sizeOf l D y S0 M F m0 B fr nc cl go bf bf cn S2 hWc hQc (c0 + 1) hI2 t ht) gX4_put_X4_sizeOf rfl hWc.1 (T := TX4) (N := 16) rfl (show (_ = _ ∧ _ ≠ _ ∧ _ ≠ _ ∧ _ = some 1) by decide +kernel) ⟨Nat.le_of_ble_eq_true rfl, Nat.le_of_ble_eq_true rfl⟩ rfl (Nat.le_of_ble_eq_true rfl) dX4_put_110 ⟨Nat.le_of_ble_eq_true rfl, Nat.le_of_ble_eq_true rfl⟩ (fun v M1 H locs hq w => ?_)
            obtain ⟨rfl, hM1⟩ := hq
            rw [hM1] at w
            clear hM1 M1
            refine W.eq (g2 := F0 m 113 ls [.int (nI (zT S2 t)), .int 0, .int i1]) rfl ?_
            refine lv_iconst (v := 1) hx hb dX4_put_113 (by decide) ?_
            refine lv_isub hx hb dX4_put_114 ?_
            refine m_callS C w hl.1 (As := [.int i1, .int 0, .int ((nI (zT S2 t)) - 1)]) (rest := []) (r_in l D y S0 M F i1 0 (nI (zT S2 t) - 1)) ggX4_put_X4_in rfl (by decide +kernel) (by decide +kernel) (by decide +kernel) (show (_ ≠ _ ∧ _ ≠ _ ∧ _ = some 3) by decide +kernel) ⟨Nat.le_of_ble_eq_true rfl, Nat.le_of_ble_eq_true rfl⟩ rfl (Nat.le_of_ble_eq_true rfl) dX4_put_115 ⟨Nat.le_of_ble_eq_true rfl, Nat.le_of_ble_eq_true rfl⟩ (fun v M1 H locs hq w => ?_)
            rw [inR_m1 (by omega)] at hq
            obtain ⟨rfl, hM1⟩ := hq
            rw [hM1] at w
            clear hM1 M1
            refine W.eq (g2 := F0 m 118 ls [.int (bI (inP i1 (zT S2 t)))]) rfl ?_
            refine lv_if_ne (tgt := 124) hx hb dX4_put_118 (by decide) (fun c_118 => ?_) (fun c_118 => ?_)
            · skip
              have n_118 : (inP i1 (zT S2 t)) = true := bI_t c_118
              obtain ⟨i, hi, ei⟩ := inP_t (by omega) n_118
              refine lv_aload_n hx hb dX4_put_124 rfl (lv_at hl 2 rfl) ?_
              refine lv_iload hx hb dX4_put_125 (lv_at hl 1 rfl) ?_
              refine lv_lload hx hb dX4_put_127 (lv_at hl 0 rfl) ?_
              refine m_topl (y := x2) hxx ?_
              refine m_callV C w hl.1 (As := [.int (nI (sH S t)), .long x2]) (rest := []) (r_goes l D y S0 M F m0 B fr nc cl go bf bf cn S2 hWc hQc (c0 + 1) hI2 (sH S t) (by omega) x2 (val_go hI2 hval h2 h2 (fun q => q.2 rfl))) gX4_put_X4_goes rfl hWc.1 (T := TX4) (N := 16) rfl (show (_ = _ ∧ _ ≠ _ ∧ _ ≠ _ ∧ _ = some 2) by decide +kernel) ⟨Nat.le_of_ble_eq_true rfl, Nat.le_of_ble_eq_true rfl⟩ rfl (Nat.le_of_ble_eq_true rfl) dX4_put_129 ⟨Nat.le_of_ble_eq_true rfl, Nat.le_of_ble_eq_true rfl⟩ (fun v M1 H locs hq w => ?_)
              obtain ⟨rfl, hM1⟩ := hq
              rw [hM1] at w
              clear hM1 M1
              refine W.eq (g2 := F0 m 132 ls [.int (bI (gs S2 (sH S t) x2))]) rfl ?_
              refine lv_if_ne (tgt := 138) hx hb dX4_put_132 (by decide) (fun c_132 => ?_) (fun c_132 => ?_)
              · skip
                have n_132 : (gs S2 (sH S t) x2) = true := bI_t c_132
                refine lv_aload_n hx hb dX4_put_138 rfl (lv_at hl 2 rfl) ?_
                refine lv_iload_n hx hb dX4_put_139 rfl (lv_at hl 3 rfl) ?_
                refine m_topi (y := nI t) et ?_
                refine lv_iload_n hx hb dX4_put_140 rfl (lv_at hl 4 rfl) ?_
                refine m_topi (y := nI i) ei ?_
                refine lv_lload hx hb dX4_put_141 (lv_at hl 0 rfl) ?_
                refine m_topl (y := x2) hxx ?_
                refine m_callV C w hl.1 (As := [.int (nI t), .int (nI i), .long x2]) (rest := []) (r_set l D y S0 M F m0 B fr nc cl go bf bf cn S2 hWc hQc (c0 + 1) hI2 t ht h22 i hi x2) gX4_put_X4_set rfl hWc.1 (T := TX4) (N := 16) rfl (show (_ = _ ∧ _ ≠ _ ∧ _ ≠ _ ∧ _ = some 3) by decide +kernel) ⟨Nat.le_of_ble_eq_true rfl, Nat.le_of_ble_eq_true rfl⟩ rfl (Nat.le_of_ble_eq_true rfl) dX4_put_143 ⟨Nat.le_of_ble_eq_true rfl, Nat.le_of_ble_eq_true rfl⟩ (fun v M1 H locs hq w => ?_)
                obtain ⟨rfl, hW9, hQ9⟩ := hq
                refine W.eq (g2 := F0 m 146 ls []) rfl ?_
                refine lv_iconst (v := 1) hx hb dX4_put_146 (by decide) ?_
                exact m_iret C w dX4_put_147 (by omega) (by omega) (⟨by rw [hm0, (show put1 S2 t i1 x2 = (1, pRC S2 (rowT S2 t) i x2) by unfold put1; rw [if_neg (by rw [n_118]; decide), if_neg (by rw [eHt, n_132]; decide), ei, cN_nI (by omega)])], by rw [hm0, (show put1 S2 t i1 x2 = (1, pRC S2 (rowT S2 t) i x2) by unfold put1; rw [if_neg (by rw [n_118]; decide), if_neg (by rw [eHt, n_132]; decide), ei, cN_nI (by omega)])]; exact ⟨B, fr, nc, _, go, bf, cn, hW9, hQ9⟩⟩)
              · skip
                have n_132 : (gs S2 (sH S t) x2) = false := bI_f c_132
                refine lv_bipush (v := (-3)) hx hb dX4_put_135 (by decide) ?_
                exact m_iret C w dX4_put_137 (by omega) (by omega) (⟨by rw [hm0, (show put1 S2 t i1 x2 = (-3, S2) by unfold put1; rw [if_neg (by rw [n_118]; decide), if_pos (by rw [eHt]; exact n_132)])], by rw [hm0, (show put1 S2 t i1 x2 = (-3, S2) by unfold put1; rw [if_neg (by rw [n_118]; decide), if_pos (by rw [eHt]; exact n_132)])]; exact ⟨B, fr, nc, cl, go, bf, cn, hWc, hQc⟩⟩)
            · skip
              have n_118 : (inP i1 (zT S2 t)) = false := bI_f c_118
              refine lv_bipush (v := (-4)) hx hb dX4_put_121 (by decide) ?_
              exact m_iret C w dX4_put_123 (by omega) (by omega) (⟨by rw [hm0, (show put1 S2 t i1 x2 = (-4, S2) by unfold put1; rw [if_pos n_118])], by rw [hm0, (show put1 S2 t i1 x2 = (-4, S2) by unfold put1; rw [if_pos n_118])]; exact ⟨B, fr, nc, cl, go, bf, cn, hWc, hQc⟩⟩)
          · skip
            have n_65 : (inP v1 12) = true := bI_t c_65
            obtain ⟨tv, htv, ev⟩ := inP_t (by decide) n_65
            have hkv := (hI.2.2.2.2.2.2.1 tv htv).1
            refine lv_aload_n hx hb dX4_put_68 rfl (lv_at hl 2 rfl) ?_
            refine m_get C w hW.1 (index := 7) (T := TX4) (N := 16) rfl hi_X4 0 (by decide) (by decide +kernel) rfl dX4_put_69 ?_
            refine lv_iload_n hx hb dX4_put_72 rfl (lv_at hl 5 rfl) ?_
            refine m_topi (y := nI tv) ev ?_
            refine m_iald C w hW.a0 tv rfl (by omega) (by omega) dX4_put_73 ?_
            refine lv_bipush (v := 6) hx hb dX4_put_74 (by decide) ?_
            refine lv_icmp_ne (tgt := 93) hx hb dX4_put_76 (by decide) (fun c_76 => ?_) (fun c_76 => ?_)
            · skip
              have n_76 : ¬ (sH S tv) = 6 := fun h => absurd ((nI_eq (by omega) (by omega)).mpr h) c_76
              refine lv_lconst (v := 0) hx hb dX4_put_93 (by decide) ?_
              refine lv_lstore (lv' := [(5, .long 0), (4, .int (nI (sH S t))), (0, .ref m0), (1, .int t1), (2, .int i1), (3, .int v1)]) hx hb dX4_put_94 hl (by decide) rfl (fun ls hl => ?_)
              refine lv_goto (tgt := 106) hx hb dX4_put_96 (by decide) ?_
              have hT : thg S (sH S t) v1 = (0, S) := by unfold thg; rw [if_neg (by rw [n_40]; decide), if_pos n_58, if_neg (by first | (rw [ev, cN_nI (by omega)]; simp [n_76]; done) | (simp [n_65]; done))]
              obtain ⟨hI2, hval⟩ := inv_thg hI hc0 h2 hk13 v1
              have hH := thg_H S (sH S t) v1
              obtain ⟨S2, eS2⟩ : ∃ z, z = (thg S (sH S t) v1).2 := ⟨_, rfl⟩
              obtain ⟨x2, ex2⟩ : ∃ z, z = (thg S (sH S t) v1).1 := ⟨_, rfl⟩
              rw [if_neg (by omega), ← eS2, ← ex2] at hm0
              rw [← eS2] at hI2 hval hH
              rw [← ex2] at hval
              obtain ⟨eH, eO2, eN, eK, eZ, eC⟩ := hH
              have eHt : sH S2 t = sH S t := congrFun eH t
              have hWc : MW y m0 B fr nc cl go bf cn S2 M := by rw [eS2, hT]; exact hW
              have hQc : MR fr nc cl bf cn S2 := by rw [eS2, hT]; exact hQ
              have hxx : 0 = x2 := by rw [ex2, hT]
              have hz2 := zT_le hI2 ht
              have h22 : 2 ≤ sH S2 t := by rw [eHt]; exact h2
              obtain ⟨eo2, hr2, ekd2, -, hzT2⟩ := rowI hI2 ht h22
              refine lv_iload_n hx hb dX4_put_106 rfl (lv_at hl 4 rfl) ?_
              refine lv_iconst (v := 0) hx hb dX4_put_107 (by decide) ?_
              refine lv_aload_n hx hb dX4_put_108 rfl (lv_at hl 2 rfl) ?_
              refine lv_iload_n hx hb dX4_put_109 rfl (lv_at hl 3 rfl) ?_
              refine m_topi (y := nI t) et ?_
              refine m_callV C w hl.1 (As := [.int (nI t)]) (rest := [.int 0, .int i1]) (r_sizeOf l D y S0 M F m0 B fr nc cl go bf bf cn S2 hWc hQc (c0 + 1) hI2 t ht) gX4_put_X4_sizeOf rfl hWc.1 (T := TX4) (N := 16) rfl (show (_ = _ ∧ _ ≠ _ ∧ _ ≠ _ ∧ _ = some 1) by decide +kernel) ⟨Nat.le_of_ble_eq_true rfl, Nat.le_of_ble_eq_true rfl⟩ rfl (Nat.le_of_ble_eq_true rfl) dX4_put_110 ⟨Nat.le_of_ble_eq_true rfl, Nat.le_of_ble_eq_true rfl⟩ (fun v M1 H locs hq w => ?_)
              obtain ⟨rfl, hM1⟩ := hq
              rw [hM1] at w
              clear hM1 M1
              refine W.eq (g2 := F0 m 113 ls [.int (nI (zT S2 t)), .int 0, .int i1]) rfl ?_
              refine lv_iconst (v := 1) hx hb dX4_put_113 (by decide) ?_
              refine lv_isub hx hb dX4_put_114 ?_
              refine m_callS C w hl.1 (As := [.int i1, .int 0, .int ((nI (zT S2 t)) - 1)]) (rest := []) (r_in l D y S0 M F i1 0 (nI (zT S2 t) - 1)) ggX4_put_X4_in rfl (by decide +kernel) (by decide +kernel) (by decide +kernel) (show (_ ≠ _ ∧ _ ≠ _ ∧ _ = some 3) by decide +kernel) ⟨Nat.le_of_ble_eq_true rfl, Nat.le_of_ble_eq_true rfl⟩ rfl (Nat.le_of_ble_eq_true rfl) dX4_put_115 ⟨Nat.le_of_ble_eq_true rfl, Nat.le_of_ble_eq_true rfl⟩ (fun v M1 H locs hq w => ?_)
              rw [inR_m1 (by omega)] at hq
              obtain ⟨rfl, hM1⟩ := hq
              rw [hM1] at w
              clear hM1 M1
              refine W.eq (g2 := F0 m 118 ls [.int (bI (inP i1 (zT S2 t)))]) rfl ?_
              refine lv_if_ne (tgt := 124) hx hb dX4_put_118 (by decide) (fun c_118 => ?_) (fun c_118 => ?_)
              · skip
                have n_118 : (inP i1 (zT S2 t)) = true := bI_t c_118
                obtain ⟨i, hi, ei⟩ := inP_t (by omega) n_118
                refine lv_aload_n hx hb dX4_put_124 rfl (lv_at hl 2 rfl) ?_
                refine lv_iload hx hb dX4_put_125 (lv_at hl 1 rfl) ?_
                refine lv_lload hx hb dX4_put_127 (lv_at hl 0 rfl) ?_
                refine m_topl (y := x2) hxx ?_
                refine m_callV C w hl.1 (As := [.int (nI (sH S t)), .long x2]) (rest := []) (r_goes l D y S0 M F m0 B fr nc cl go bf bf cn S2 hWc hQc (c0 + 1) hI2 (sH S t) (by omega) x2 (val_go hI2 hval h2 h2 (fun q => q.2 rfl))) gX4_put_X4_goes rfl hWc.1 (T := TX4) (N := 16) rfl (show (_ = _ ∧ _ ≠ _ ∧ _ ≠ _ ∧ _ = some 2) by decide +kernel) ⟨Nat.le_of_ble_eq_true rfl, Nat.le_of_ble_eq_true rfl⟩ rfl (Nat.le_of_ble_eq_true rfl) dX4_put_129 ⟨Nat.le_of_ble_eq_true rfl, Nat.le_of_ble_eq_true rfl⟩ (fun v M1 H locs hq w => ?_)
                obtain ⟨rfl, hM1⟩ := hq
                rw [hM1] at w
                clear hM1 M1
                refine W.eq (g2 := F0 m 132 ls [.int (bI (gs S2 (sH S t) x2))]) rfl ?_
                refine lv_if_ne (tgt := 138) hx hb dX4_put_132 (by decide) (fun c_132 => ?_) (fun c_132 => ?_)
                · skip
                  have n_132 : (gs S2 (sH S t) x2) = true := bI_t c_132
                  refine lv_aload_n hx hb dX4_put_138 rfl (lv_at hl 2 rfl) ?_
                  refine lv_iload_n hx hb dX4_put_139 rfl (lv_at hl 3 rfl) ?_
                  refine m_topi (y := nI t) et ?_
                  refine lv_iload_n hx hb dX4_put_140 rfl (lv_at hl 4 rfl) ?_
                  refine m_topi (y := nI i) ei ?_
                  refine lv_lload hx hb dX4_put_141 (lv_at hl 0 rfl) ?_
                  refine m_topl (y := x2) hxx ?_
                  refine m_callV C w hl.1 (As := [.int (nI t), .int (nI i), .long x2]) (rest := []) (r_set l D y S0 M F m0 B fr nc cl go bf bf cn S2 hWc hQc (c0 + 1) hI2 t ht h22 i hi x2) gX4_put_X4_set rfl hWc.1 (T := TX4) (N := 16) rfl (show (_ = _ ∧ _ ≠ _ ∧ _ ≠ _ ∧ _ = some 3) by decide +kernel) ⟨Nat.le_of_ble_eq_true rfl, Nat.le_of_ble_eq_true rfl⟩ rfl (Nat.le_of_ble_eq_true rfl) dX4_put_143 ⟨Nat.le_of_ble_eq_true rfl, Nat.le_of_ble_eq_true rfl⟩ (fun v M1 H locs hq w => ?_)
                  obtain ⟨rfl, hW9, hQ9⟩ := hq
                  refine W.eq (g2 := F0 m 146 ls []) rfl ?_
                  refine lv_iconst (v := 1) hx hb dX4_put_146 (by decide) ?_
                  exact m_iret C w dX4_put_147 (by omega) (by omega) (⟨by rw [hm0, (show put1 S2 t i1 x2 = (1, pRC S2 (rowT S2 t) i x2) by unfold put1; rw [if_neg (by rw [n_118]; decide), if_neg (by rw [eHt, n_132]; decide), ei, cN_nI (by omega)])], by rw [hm0, (show put1 S2 t i1 x2 = (1, pRC S2 (rowT S2 t) i x2) by unfold put1; rw [if_neg (by rw [n_118]; decide), if_neg (by rw [eHt, n_132]; decide), ei, cN_nI (by omega)])]; exact ⟨B, fr, nc, _, go, bf, cn, hW9, hQ9⟩⟩)
                · skip
                  have n_132 : (gs S2 (sH S t) x2) = false := bI_f c_132
                  refine lv_bipush (v := (-3)) hx hb dX4_put_135 (by decide) ?_
                  exact m_iret C w dX4_put_137 (by omega) (by omega) (⟨by rw [hm0, (show put1 S2 t i1 x2 = (-3, S2) by unfold put1; rw [if_neg (by rw [n_118]; decide), if_pos (by rw [eHt]; exact n_132)])], by rw [hm0, (show put1 S2 t i1 x2 = (-3, S2) by unfold put1; rw [if_neg (by rw [n_118]; decide), if_pos (by rw [eHt]; exact n_132)])]; exact ⟨B, fr, nc, cl, go, bf, cn, hWc, hQc⟩⟩)
              · skip
                have n_118 : (inP i1 (zT S2 t)) = false := bI_f c_118
                refine lv_bipush (v := (-4)) hx hb dX4_put_121 (by decide) ?_
                exact m_iret C w dX4_put_123 (by omega) (by omega) (⟨by rw [hm0, (show put1 S2 t i1 x2 = (-4, S2) by unfold put1; rw [if_pos n_118])], by rw [hm0, (show put1 S2 t i1 x2 = (-4, S2) by unfold put1; rw [if_pos n_118])]; exact ⟨B, fr, nc, cl, go, bf, cn, hWc, hQc⟩⟩)
            · skip
              have n_76 : (sH S tv) = 6 := (nI_eq (by omega) (by omega)).mp (by first | exact c_76 | exact Classical.not_not.mp c_76)
              refine lv_ldc2 (v := (-1)) hx hb C.2.2.2.1 (C.2.2.2.2.1 (.constantLong RX4 82 (-1)) (by decide +kernel)) dX4_put_79 ?_
              refine lv_aload_n hx hb dX4_put_82 rfl (lv_at hl 2 rfl) ?_
              refine m_get C w hW.1 (index := 13) (T := TX4) (N := 16) rfl hi_X4 1 (by decide) (by decide +kernel) rfl dX4_put_83 ?_
              refine lv_iload_n hx hb dX4_put_86 rfl (lv_at hl 5 rfl) ?_
              refine m_topi (y := nI tv) ev ?_
              refine m_iald C w hW.a1 tv rfl (by omega) (by omega) dX4_put_87 ?_
              refine lv_i2l hx hb dX4_put_88 rfl ?_
              refine lv_lsub hx hb dX4_put_89 ?_
              refine lv_goto (tgt := 94) hx hb dX4_put_90 (by decide) ?_
              refine lv_lstore (lv' := [(5, .long ((-1) - ((sO S tv).toInt64))), (4, .int (nI (sH S t))), (0, .ref m0), (1, .int t1), (2, .int i1), (3, .int v1)]) hx hb dX4_put_94 hl (by decide) rfl (fun ls hl => ?_)
              refine lv_goto (tgt := 106) hx hb dX4_put_96 (by decide) ?_
              have hT : thg S (sH S t) v1 = (-1 - (sO S tv).toInt64, S) := by unfold thg; rw [if_neg (by rw [n_40]; decide), if_pos n_58, ev, cN_nI (by omega), if_pos (by rw [inP_nI htv (by decide), n_76]; rfl)]
              obtain ⟨hI2, hval⟩ := inv_thg hI hc0 h2 hk13 v1
              have hH := thg_H S (sH S t) v1
              obtain ⟨S2, eS2⟩ : ∃ z, z = (thg S (sH S t) v1).2 := ⟨_, rfl⟩
              obtain ⟨x2, ex2⟩ : ∃ z, z = (thg S (sH S t) v1).1 := ⟨_, rfl⟩
              rw [if_neg (by omega), ← eS2, ← ex2] at hm0
              rw [← eS2] at hI2 hval hH
              rw [← ex2] at hval
              obtain ⟨eH, eO2, eN, eK, eZ, eC⟩ := hH
              have eHt : sH S2 t = sH S t := congrFun eH t
              have hWc : MW y m0 B fr nc cl go bf cn S2 M := by rw [eS2, hT]; exact hW
              have hQc : MR fr nc cl bf cn S2 := by rw [eS2, hT]; exact hQ
              have hxx : (-1) - ((sO S tv).toInt64) = x2 := by rw [ex2, hT]
              have hz2 := zT_le hI2 ht
              have h22 : 2 ≤ sH S2 t := by rw [eHt]; exact h2
              obtain ⟨eo2, hr2, ekd2, -, hzT2⟩ := rowI hI2 ht h22
              refine lv_iload_n hx hb dX4_put_106 rfl (lv_at hl 4 rfl) ?_
              refine lv_iconst (v := 0) hx hb dX4_put_107 (by decide) ?_
              refine lv_aload_n hx hb dX4_put_108 rfl (lv_at hl 2 rfl) ?_
              refine lv_iload_n hx hb dX4_put_109 rfl (lv_at hl 3 rfl) ?_
              refine m_topi (y := nI t) et ?_
              refine m_callV C w hl.1 (As := [.int (nI t)]) (rest := [.int 0, .int i1]) (r_sizeOf l D y S0 M F m0 B fr nc cl go bf bf cn S2 hWc hQc (c0 + 1) hI2 t ht) gX4_put_X4_sizeOf rfl hWc.1 (T := TX4) (N := 16) rfl (show (_ = _ ∧ _ ≠ _ ∧ _ ≠ _ ∧ _ = some 1) by decide +kernel) ⟨Nat.le_of_ble_eq_true rfl, Nat.le_of_ble_eq_true rfl⟩ rfl (Nat.le_of_ble_eq_true rfl) dX4_put_110 ⟨Nat.le_of_ble_eq_true rfl, Nat.le_of_ble_eq_true rfl⟩ (fun v M1 H locs hq w => ?_)
              obtain ⟨rfl, hM1⟩ := hq
              rw [hM1] at w
              clear hM1 M1
              refine W.eq (g2 := F0 m 113 ls [.int (nI (zT S2 t)), .int 0, .int i1]) rfl ?_
              refine lv_iconst (v := 1) hx hb dX4_put_113 (by decide) ?_
              refine lv_isub hx hb dX4_put_114 ?_
              refine m_callS C w hl.1 (As := [.int i1, .int 0, .int ((nI (zT S2 t)) - 1)]) (rest := []) (r_in l D y S0 M F i1 0 (nI (zT S2 t) - 1)) ggX4_put_X4_in rfl (by decide +kernel) (by decide +kernel) (by decide +kernel) (show (_ ≠ _ ∧ _ ≠ _ ∧ _ = some 3) by decide +kernel) ⟨Nat.le_of_ble_eq_true rfl, Nat.le_of_ble_eq_true rfl⟩ rfl (Nat.le_of_ble_eq_true rfl) dX4_put_115 ⟨Nat.le_of_ble_eq_true rfl, Nat.le_of_ble_eq_true rfl⟩ (fun v M1 H locs hq w => ?_)
              rw [inR_m1 (by omega)] at hq
              obtain ⟨rfl, hM1⟩ := hq
              rw [hM1] at w
              clear hM1 M1
              refine W.eq (g2 := F0 m 118 ls [.int (bI (inP i1 (zT S2 t)))]) rfl ?_
              refine lv_if_ne (tgt := 124) hx hb dX4_put_118 (by decide) (fun c_118 => ?_) (fun c_118 => ?_)
              · skip
                have n_118 : (inP i1 (zT S2 t)) = true := bI_t c_118
                obtain ⟨i, hi, ei⟩ := inP_t (by omega) n_118
                refine lv_aload_n hx hb dX4_put_124 rfl (lv_at hl 2 rfl) ?_
                refine lv_iload hx hb dX4_put_125 (lv_at hl 1 rfl) ?_
                refine lv_lload hx hb dX4_put_127 (lv_at hl 0 rfl) ?_
                refine m_topl (y := x2) hxx ?_
                refine m_callV C w hl.1 (As := [.int (nI (sH S t)), .long x2]) (rest := []) (r_goes l D y S0 M F m0 B fr nc cl go bf bf cn S2 hWc hQc (c0 + 1) hI2 (sH S t) (by omega) x2 (val_go hI2 hval h2 h2 (fun q => q.2 rfl))) gX4_put_X4_goes rfl hWc.1 (T := TX4) (N := 16) rfl (show (_ = _ ∧ _ ≠ _ ∧ _ ≠ _ ∧ _ = some 2) by decide +kernel) ⟨Nat.le_of_ble_eq_true rfl, Nat.le_of_ble_eq_true rfl⟩ rfl (Nat.le_of_ble_eq_true rfl) dX4_put_129 ⟨Nat.le_of_ble_eq_true rfl, Nat.le_of_ble_eq_true rfl⟩ (fun v M1 H locs hq w => ?_)
                obtain ⟨rfl, hM1⟩ := hq
                rw [hM1] at w
                clear hM1 M1
                refine W.eq (g2 := F0 m 132 ls [.int (bI (gs S2 (sH S t) x2))]) rfl ?_
                refine lv_if_ne (tgt := 138) hx hb dX4_put_132 (by decide) (fun c_132 => ?_) (fun c_132 => ?_)
                · skip
                  have n_132 : (gs S2 (sH S t) x2) = true := bI_t c_132
                  refine lv_aload_n hx hb dX4_put_138 rfl (lv_at hl 2 rfl) ?_
                  refine lv_iload_n hx hb dX4_put_139 rfl (lv_at hl 3 rfl) ?_
                  refine m_topi (y := nI t) et ?_
                  refine lv_iload_n hx hb dX4_put_140 rfl (lv_at hl 4 rfl) ?_
                  refine m_topi (y := nI i) ei ?_
                  refine lv_lload hx hb dX4_put_141 (lv_at hl 0 rfl) ?_
                  refine m_topl (y := x2) hxx ?_
                  refine m_callV C w hl.1 (As := [.int (nI t), .int (nI i), .long x2]) (rest := []) (r_set l D y S0 M F m0 B fr nc cl go bf bf cn S2 hWc hQc (c0 + 1) hI2 t ht h22 i hi x2) gX4_put_X4_set rfl hWc.1 (T := TX4) (N := 16) rfl (show (_ = _ ∧ _ ≠ _ ∧ _ ≠ _ ∧ _ = some 3) by decide +kernel) ⟨Nat.le_of_ble_eq_true rfl, Nat.le_of_ble_eq_true rfl⟩ rfl (Nat.le_of_ble_eq_true rfl) dX4_put_143 ⟨Nat.le_of_ble_eq_true rfl, Nat.le_of_ble_eq_true rfl⟩ (fun v M1 H locs hq w => ?_)
                  obtain ⟨rfl, hW9, hQ9⟩ := hq
                  refine W.eq (g2 := F0 m 146 ls []) rfl ?_
                  refine lv_iconst (v := 1) hx hb dX4_put_146 (by decide) ?_
                  exact m_iret C w dX4_put_147 (by omega) (by omega) (⟨by rw [hm0, (show put1 S2 t i1 x2 = (1, pRC S2 (rowT S2 t) i x2) by unfold put1; rw [if_neg (by rw [n_118]; decide), if_neg (by rw [eHt, n_132]; decide), ei, cN_nI (by omega)])], by rw [hm0, (show put1 S2 t i1 x2 = (1, pRC S2 (rowT S2 t) i x2) by unfold put1; rw [if_neg (by rw [n_118]; decide), if_neg (by rw [eHt, n_132]; decide), ei, cN_nI (by omega)])]; exact ⟨B, fr, nc, _, go, bf, cn, hW9, hQ9⟩⟩)
                · skip
                  have n_132 : (gs S2 (sH S t) x2) = false := bI_f c_132
                  refine lv_bipush (v := (-3)) hx hb dX4_put_135 (by decide) ?_
                  exact m_iret C w dX4_put_137 (by omega) (by omega) (⟨by rw [hm0, (show put1 S2 t i1 x2 = (-3, S2) by unfold put1; rw [if_neg (by rw [n_118]; decide), if_pos (by rw [eHt]; exact n_132)])], by rw [hm0, (show put1 S2 t i1 x2 = (-3, S2) by unfold put1; rw [if_neg (by rw [n_118]; decide), if_pos (by rw [eHt]; exact n_132)])]; exact ⟨B, fr, nc, cl, go, bf, cn, hWc, hQc⟩⟩)
              · skip
                have n_118 : (inP i1 (zT S2 t)) = false := bI_f c_118
                refine lv_bipush (v := (-4)) hx hb dX4_put_121 (by decide) ?_
                exact m_iret C w dX4_put_123 (by omega) (by omega) (⟨by rw [hm0, (show put1 S2 t i1 x2 = (-4, S2) by unfold put1; rw [if_pos n_118])], by rw [hm0, (show put1 S2 t i1 x2 = (-4, S2) by unfold put1; rw [if_pos n_118])]; exact ⟨B, fr, nc, cl, go, bf, cn, hWc, hQc⟩⟩)
      · skip
        have n_40 : (isN (sH S t)) = true := bI_t c_40
        refine lv_iload hx hb dX4_put_43 (lv_at hl 1 rfl) ?_
        refine lv_iload_n hx hb dX4_put_45 rfl (lv_at hl 5 rfl) ?_
        refine m_callS C w hl.1 (As := [.int (nI (sH S t)), .int v1]) (rest := []) (r_narrowed l D y S0 M F (sH S t) (by omega) v1) ggX4_put_X4_narrowed rfl (by decide +kernel) (by decide +kernel) (by decide +kernel) (show (_ ≠ _ ∧ _ ≠ _ ∧ _ = some 2) by decide +kernel) ⟨Nat.le_of_ble_eq_true rfl, Nat.le_of_ble_eq_true rfl⟩ rfl (Nat.le_of_ble_eq_true rfl) dX4_put_46 ⟨Nat.le_of_ble_eq_true rfl, Nat.le_of_ble_eq_true rfl⟩ (fun v M1 H locs hq w => ?_)
        obtain ⟨rfl, hM1⟩ := hq
        rw [hM1] at w
        clear hM1 M1
        refine W.eq (g2 := F0 m 49 ls [.long (nw (sH S t) v1)]) rfl ?_
        refine lv_lstore (lv' := [(5, .long (nw (sH S t) v1)), (4, .int (nI (sH S t))), (0, .ref m0), (1, .int t1), (2, .int i1), (3, .int v1)]) hx hb dX4_put_49 hl (by decide) rfl (fun ls hl => ?_)
        refine lv_goto (tgt := 106) hx hb dX4_put_51 (by decide) ?_
        have hT : thg S (sH S t) v1 = (nw (sH S t) v1, S) := by unfold thg; rw [if_pos n_40]
        obtain ⟨hI2, hval⟩ := inv_thg hI hc0 h2 hk13 v1
        have hH := thg_H S (sH S t) v1
        obtain ⟨S2, eS2⟩ : ∃ z, z = (thg S (sH S t) v1).2 := ⟨_, rfl⟩
        obtain ⟨x2, ex2⟩ : ∃ z, z = (thg S (sH S t) v1).1 := ⟨_, rfl⟩
        rw [if_neg (by omega), ← eS2, ← ex2] at hm0
        rw [← eS2] at hI2 hval hH
        rw [← ex2] at hval
        obtain ⟨eH, eO2, eN, eK, eZ, eC⟩ := hH
        have eHt : sH S2 t = sH S t := congrFun eH t
        have hWc : MW y m0 B fr nc cl go bf cn S2 M := by rw [eS2, hT]; exact hW
        have hQc : MR fr nc cl bf cn S2 := by rw [eS2, hT]; exact hQ
        have hxx : nw (sH S t) v1 = x2 := by rw [ex2, hT]
        have hz2 := zT_le hI2 ht
        have h22 : 2 ≤ sH S2 t := by rw [eHt]; exact h2
        obtain ⟨eo2, hr2, ekd2, -, hzT2⟩ := rowI hI2 ht h22
        refine lv_iload_n hx hb dX4_put_106 rfl (lv_at hl 4 rfl) ?_
        refine lv_iconst (v := 0) hx hb dX4_put_107 (by decide) ?_
        refine lv_aload_n hx hb dX4_put_108 rfl (lv_at hl 2 rfl) ?_
        refine lv_iload_n hx hb dX4_put_109 rfl (lv_at hl 3 rfl) ?_
        refine m_topi (y := nI t) et ?_
        refine m_callV C w hl.1 (As := [.int (nI t)]) (rest := [.int 0, .int i1]) (r_sizeOf l D y S0 M F m0 B fr nc cl go bf bf cn S2 hWc hQc (c0 + 1) hI2 t ht) gX4_put_X4_sizeOf rfl hWc.1 (T := TX4) (N := 16) rfl (show (_ = _ ∧ _ ≠ _ ∧ _ ≠ _ ∧ _ = some 1) by decide +kernel) ⟨Nat.le_of_ble_eq_true rfl, Nat.le_of_ble_eq_true rfl⟩ rfl (Nat.le_of_ble_eq_true rfl) dX4_put_110 ⟨Nat.le_of_ble_eq_true rfl, Nat.le_of_ble_eq_true rfl⟩ (fun v M1 H locs hq w => ?_)
        obtain ⟨rfl, hM1⟩ := hq
        rw [hM1] at w
        clear hM1 M1
        refine W.eq (g2 := F0 m 113 ls [.int (nI (zT S2 t)), .int 0, .int i1]) rfl ?_
        refine lv_iconst (v := 1) hx hb dX4_put_113 (by decide) ?_
        refine lv_isub hx hb dX4_put_114 ?_
        refine m_callS C w hl.1 (As := [.int i1, .int 0, .int ((nI (zT S2 t)) - 1)]) (rest := []) (r_in l D y S0 M F i1 0 (nI (zT S2 t) - 1)) ggX4_put_X4_in rfl (by decide +kernel) (by decide +kernel) (by decide +kernel) (show (_ ≠ _ ∧ _ ≠ _ ∧ _ = some 3) by decide +kernel) ⟨Nat.le_of_ble_eq_true rfl, Nat.le_of_ble_eq_true rfl⟩ rfl (Nat.le_of_ble_eq_true rfl) dX4_put_115 ⟨Nat.le_of_ble_eq_true rfl, Nat.le_of_ble_eq_true rfl⟩ (fun v M1 H locs hq w => ?_)
        rw [inR_m1 (by omega)] at hq
        obtain ⟨rfl, hM1⟩ := hq
        rw [hM1] at w
        clear hM1 M1
        refine W.eq (g2 := F0 m 118 ls [.int (bI (inP i1 (zT S2 t)))]) rfl ?_
        refine lv_if_ne (tgt := 124) hx hb dX4_put_118 (by decide) (fun c_118 => ?_) (fun c_118 => ?_)
        · skip
          have n_118 : (inP i1 (zT S2 t)) = true := bI_t c_118
          obtain ⟨i, hi, ei⟩ := inP_t (by omega) n_118
          refine lv_aload_n hx hb dX4_put_124 rfl (lv_at hl 2 rfl) ?_
          refine lv_iload hx hb dX4_put_125 (lv_at hl 1 rfl) ?_
          refine lv_lload hx hb dX4_put_127 (lv_at hl 0 rfl) ?_
          refine m_topl (y := x2) hxx ?_
          refine m_callV C w hl.1 (As := [.int (nI (sH S t)), .long x2]) (rest := []) (r_goes l D y S0 M F m0 B fr nc cl go bf bf cn S2 hWc hQc (c0 + 1) hI2 (sH S t) (by omega) x2 (val_go hI2 hval h2 h2 (fun q => q.2 rfl))) gX4_put_X4_goes rfl hWc.1 (T := TX4) (N := 16) rfl (show (_ = _ ∧ _ ≠ _ ∧ _ ≠ _ ∧ _ = some 2) by decide +kernel) ⟨Nat.le_of_ble_eq_true rfl, Nat.le_of_ble_eq_true rfl⟩ rfl (Nat.le_of_ble_eq_true rfl) dX4_put_129 ⟨Nat.le_of_ble_eq_true rfl, Nat.le_of_ble_eq_true rfl⟩ (fun v M1 H locs hq w => ?_)
          obtain ⟨rfl, hM1⟩ := hq
          rw [hM1] at w
          clear hM1 M1
          refine W.eq (g2 := F0 m 132 ls [.int (bI (gs S2 (sH S t) x2))]) rfl ?_
          refine lv_if_ne (tgt := 138) hx hb dX4_put_132 (by decide) (fun c_132 => ?_) (fun c_132 => ?_)
          · skip
            have n_132 : (gs S2 (sH S t) x2) = true := bI_t c_132
            refine lv_aload_n hx hb dX4_put_138 rfl (lv_at hl 2 rfl) ?_
            refine lv_iload_n hx hb dX4_put_139 rfl (lv_at hl 3 rfl) ?_
            refine m_topi (y := nI t) et ?_
            refine lv_iload_n hx hb dX4_put_140 rfl (lv_at hl 4 rfl) ?_
            refine m_topi (y := nI i) ei ?_
            refine lv_lload hx hb dX4_put_141 (lv_at hl 0 rfl) ?_
            refine m_topl (y := x2) hxx ?_
            refine m_callV C w hl.1 (As := [.int (nI t), .int (nI i), .long x2]) (rest := []) (r_set l D y S0 M F m0 B fr nc cl go bf bf cn S2 hWc hQc (c0 + 1) hI2 t ht h22 i hi x2) gX4_put_X4_set rfl hWc.1 (T := TX4) (N := 16) rfl (show (_ = _ ∧ _ ≠ _ ∧ _ ≠ _ ∧ _ = some 3) by decide +kernel) ⟨Nat.le_of_ble_eq_true rfl, Nat.le_of_ble_eq_true rfl⟩ rfl (Nat.le_of_ble_eq_true rfl) dX4_put_143 ⟨Nat.le_of_ble_eq_true rfl, Nat.le_of_ble_eq_true rfl⟩ (fun v M1 H locs hq w => ?_)
            obtain ⟨rfl, hW9, hQ9⟩ := hq
            refine W.eq (g2 := F0 m 146 ls []) rfl ?_
            refine lv_iconst (v := 1) hx hb dX4_put_146 (by decide) ?_
            exact m_iret C w dX4_put_147 (by omega) (by omega) (⟨by rw [hm0, (show put1 S2 t i1 x2 = (1, pRC S2 (rowT S2 t) i x2) by unfold put1; rw [if_neg (by rw [n_118]; decide), if_neg (by rw [eHt, n_132]; decide), ei, cN_nI (by omega)])], by rw [hm0, (show put1 S2 t i1 x2 = (1, pRC S2 (rowT S2 t) i x2) by unfold put1; rw [if_neg (by rw [n_118]; decide), if_neg (by rw [eHt, n_132]; decide), ei, cN_nI (by omega)])]; exact ⟨B, fr, nc, _, go, bf, cn, hW9, hQ9⟩⟩)
          · skip
            have n_132 : (gs S2 (sH S t) x2) = false := bI_f c_132
            refine lv_bipush (v := (-3)) hx hb dX4_put_135 (by decide) ?_
            exact m_iret C w dX4_put_137 (by omega) (by omega) (⟨by rw [hm0, (show put1 S2 t i1 x2 = (-3, S2) by unfold put1; rw [if_neg (by rw [n_118]; decide), if_pos (by rw [eHt]; exact n_132)])], by rw [hm0, (show put1 S2 t i1 x2 = (-3, S2) by unfold put1; rw [if_neg (by rw [n_118]; decide), if_pos (by rw [eHt]; exact n_132)])]; exact ⟨B, fr, nc, cl, go, bf, cn, hWc, hQc⟩⟩)
        · skip
          have n_118 : (inP i1 (zT S2 t)) = false := bI_f c_118
          refine lv_bipush (v := (-4)) hx hb dX4_put_121 (by decide) ?_
          exact m_iret C w dX4_put_123 (by omega) (by omega) (⟨by rw [hm0, (show put1 S2 t i1 x2 = (-4, S2) by unfold put1; rw [if_pos n_118])], by rw [hm0, (show put1 S2 t i1 x2 = (-4, S2) by unfold put1; rw [if_pos n_118])]; exact ⟨B, fr, nc, cl, go, bf, cn, hWc, hQc⟩⟩)
    · skip
      have n_15 : (decide (2 ≤ sH S t)) = false := bI_f c_15
      refine lv_aload_n hx hb dX4_put_18 rfl (lv_at hl 0 rfl) ?_
      refine lv_iload_n hx hb dX4_put_19 rfl (lv_at hl 1 rfl) ?_
      refine m_topi (y := nI t) et ?_
      refine m_callV C w hl.1 (As := [.int (nI t)]) (rest := []) (r_lacks l D y S0 M F m0 B fr nc cl go bf bf cn S hW hQ c0 hI t ht) gX4_put_X4_lacks rfl hW.1 (T := TX4) (N := 16) rfl (show (_ = _ ∧ _ ≠ _ ∧ _ ≠ _ ∧ _ = some 1) by decide +kernel) ⟨Nat.le_of_ble_eq_true rfl, Nat.le_of_ble_eq_true rfl⟩ rfl (Nat.le_of_ble_eq_true rfl) dX4_put_20 ⟨Nat.le_of_ble_eq_true rfl, Nat.le_of_ble_eq_true rfl⟩ (fun v M1 H locs hq w => ?_)
      obtain ⟨rfl, hM1⟩ := hq
      rw [hM1] at w
      clear hM1 M1
      refine W.eq (g2 := F0 m 23 ls [.int (fR (sH S t))]) rfl ?_
      exact m_iret C w dX4_put_23 (by omega) (by omega) (⟨by rw [hm0, if_pos (by have := of_decide_eq_false n_15; omega)], by rw [hm0, if_pos (by have := of_decide_eq_false n_15; omega)]; exact ⟨B, fr, nc, cl, go, bf, cn, hW, hQ⟩⟩)
  · skip
    have n_4 : (inP t1 12) = false := bI_f c_4
    refine lv_bipush (v := (-6)) hx hb dX4_put_7 (by decide) ?_
    exact m_iret C w dX4_put_9 (by omega) (by omega) (⟨by rw [(show sp_put S t1 i1 v1 = (-6, S) by unfold sp_put; rw [if_pos (by first | (simp [n_4]; done))])], by rw [(show sp_put S t1 i1 v1 = (-6, S) by unfold sp_put; rw [if_pos (by first | (simp [n_4]; done))])]; exact ⟨B, fr, nc, cl, go, bf, cn, hW, hQ⟩⟩)
set_option maxRecDepth 100000 in
set_option maxHeartbeats 4000000 in
theorem r_tray (l : Launch) (D : va_G) (y : mY) (S0 : Nat) (M F : mp) (m0 : Nat) (B : Nat → Nat) (fr : Nat → Nat) (nc : Nat) (cl go bf : Nat → Int64) (cn : Nat → Int32) (S : St) (hW : MW y m0 B fr nc cl go bf cn S M) (hQ : MR fr nc cl bf cn S) (c0 : Nat) (hI : Inv c0 S) (t1 w1 : Int32) : ct l yX4_tray wsX4_tray 2 42 0 0 D y S0 M F [.ref m0, .int t1, .int w1] (fun v M' => v = some (.int (sp_tray S t1 w1)) ∧ M' = M) := by
  refine ct_of cX4_tray 3 (some .int) [(0, .ref m0), (1, .int t1), (2, .int w1)] (by decide +kernel) rfl (Nat.le_of_ble_eq_true rfl) rfl ?_
  intro p e s m below meth c ls C hnm hl w
  have hx := C.1
  have hb := C.2.1
  have hi_X4 : ∀ w ∈ u_ws RX4 TX4 16, w ∈ wsX4_tray := by decide +kernel
  refine lv_iload_n hx hb dX4_tray_0 rfl (lv_at hl 1 rfl) ?_
  refine m_callS C w hl.1 (As := [.int t1]) (rest := []) (r_isTray l D y S0 M F t1) ggX4_tray_X4_isTray rfl (by decide +kernel) (by decide +kernel) (by decide +kernel) (show (_ ≠ _ ∧ _ ≠ _ ∧ _ = some 1) by decide +kernel) ⟨Nat.le_of_ble_eq_true rfl, Nat.le_of_ble_eq_true rfl⟩ rfl (Nat.le_of_ble_eq_true rfl) dX4_tray_1 ⟨Nat.le_of_ble_eq_true rfl, Nat.le_of_ble_eq_true rfl⟩ (fun v M1 H locs hq w => ?_)
  obtain ⟨rfl, hM1⟩ := hq
  rw [hM1] at w
  clear hM1 M1
  refine W.eq (g2 := F0 m 4 ls [.int (bI (inP t1 12))]) rfl ?_
  refine lv_if_eq (tgt := 16) hx hb dX4_tray_4 (by decide) (fun c_4 => ?_) (fun c_4 => ?_)
  · skip
    have n_4 : (inP t1 12) = false := bI_f c_4
    refine lv_bipush (v := (-6)) hx hb dX4_tray_16 (by decide) ?_
    exact m_iret C w dX4_tray_18 (by omega) (by omega) (⟨by unfold sp_tray; rw [if_pos (by first | (rw [n_4]; rfl) | (rw [show inP w1 2 = false from by rw [← inR_P (z := 1) (by omega)]; exact n_13, Bool.and_false]))], rfl⟩)
  · skip
    have n_4 : (inP t1 12) = true := bI_t c_4
    refine lv_iload_n hx hb dX4_tray_7 rfl (lv_at hl 2 rfl) ?_
    refine lv_iconst (v := 0) hx hb dX4_tray_8 (by decide) ?_
    refine lv_iconst (v := 1) hx hb dX4_tray_9 (by decide) ?_
    refine m_callS C w hl.1 (As := [.int w1, .int 0, .int 1]) (rest := []) (r_in l D y S0 M F w1 0 1) ggX4_tray_X4_in rfl (by decide +kernel) (by decide +kernel) (by decide +kernel) (show (_ ≠ _ ∧ _ ≠ _ ∧ _ = some 3) by decide +kernel) ⟨Nat.le_of_ble_eq_true rfl, Nat.le_of_ble_eq_true rfl⟩ rfl (Nat.le_of_ble_eq_true rfl) dX4_tray_10 ⟨Nat.le_of_ble_eq_true rfl, Nat.le_of_ble_eq_true rfl⟩ (fun v M1 H locs hq w => ?_)
    obtain ⟨rfl, hM1⟩ := hq
    rw [hM1] at w
    clear hM1 M1
    refine W.eq (g2 := F0 m 13 ls [.int (bI (inR w1 0 1))]) rfl ?_
    refine lv_if_ne (tgt := 19) hx hb dX4_tray_13 (by decide) (fun c_13 => ?_) (fun c_13 => ?_)
    · skip
      have n_13 : (inR w1 0 1) = true := bI_t c_13
      obtain ⟨t, ht, et⟩ := inP_t (by decide) n_4
      have hk13 := (hI.2.2.2.2.2.2.1 t ht).1
      have hw2 : inP w1 2 = true := by rw [← inR_P (z := 1) (by omega)]; exact n_13
      have hm : sp_tray S t1 w1 = if w1 = 0 then nI (sH S t) else if sH S t = 1 then sO S t else nI (zT S t) := by unfold sp_tray; rw [if_neg (by rw [n_4, hw2]; decide), et, cN_nI (by omega)]
      refine lv_iload_n hx hb dX4_tray_19 rfl (lv_at hl 2 rfl) ?_
      refine lv_if_ne (tgt := 32) hx hb dX4_tray_20 (by decide) (fun c_20 => ?_) (fun c_20 => ?_)
      · skip
        refine lv_aload_n hx hb dX4_tray_32 rfl (lv_at hl 0 rfl) ?_
        refine m_get C w hW.1 (index := 7) (T := TX4) (N := 16) rfl hi_X4 0 (by decide) (by decide +kernel) rfl dX4_tray_33 ?_
        refine lv_iload_n hx hb dX4_tray_36 rfl (lv_at hl 1 rfl) ?_
        refine m_topi (y := nI t) et ?_
        refine m_iald C w hW.a0 t rfl (by omega) (by omega) dX4_tray_37 ?_
        refine lv_iconst (v := 1) hx hb dX4_tray_38 (by decide) ?_
        refine lv_icmp_ne (tgt := 51) hx hb dX4_tray_39 (by decide) (fun c_39 => ?_) (fun c_39 => ?_)
        · skip
          have n_39 : ¬ (sH S t) = 1 := fun h => absurd ((nI_eq (by omega) (by omega)).mpr h) c_39
          refine lv_aload_n hx hb dX4_tray_51 rfl (lv_at hl 0 rfl) ?_
          refine lv_iload_n hx hb dX4_tray_52 rfl (lv_at hl 1 rfl) ?_
          refine m_topi (y := nI t) et ?_
          refine m_callV C w hl.1 (As := [.int (nI t)]) (rest := []) (r_sizeOf l D y S0 M F m0 B fr nc cl go bf bf cn S hW hQ c0 hI t ht) gX4_tray_X4_sizeOf rfl hW.1 (T := TX4) (N := 16) rfl (show (_ = _ ∧ _ ≠ _ ∧ _ ≠ _ ∧ _ = some 1) by decide +kernel) ⟨Nat.le_of_ble_eq_true rfl, Nat.le_of_ble_eq_true rfl⟩ rfl (Nat.le_of_ble_eq_true rfl) dX4_tray_53 ⟨Nat.le_of_ble_eq_true rfl, Nat.le_of_ble_eq_true rfl⟩ (fun v M1 H locs hq w => ?_)
          obtain ⟨rfl, hM1⟩ := hq
          rw [hM1] at w
          clear hM1 M1
          refine W.eq (g2 := F0 m 56 ls [.int (nI (zT S t))]) rfl ?_
          exact m_iret C w dX4_tray_56 (by omega) (by omega) (⟨by rw [hm, if_neg c_20, if_neg n_39], rfl⟩)
        · skip
          have n_39 : (sH S t) = 1 := (nI_eq (by omega) (by omega)).mp (by first | exact c_39 | exact Classical.not_not.mp c_39)
          refine lv_aload_n hx hb dX4_tray_42 rfl (lv_at hl 0 rfl) ?_
          refine m_get C w hW.1 (index := 13) (T := TX4) (N := 16) rfl hi_X4 1 (by decide) (by decide +kernel) rfl dX4_tray_43 ?_
          refine lv_iload_n hx hb dX4_tray_46 rfl (lv_at hl 1 rfl) ?_
          refine m_topi (y := nI t) et ?_
          refine m_iald C w hW.a1 t rfl (by omega) (by omega) dX4_tray_47 ?_
          refine lv_goto (tgt := 56) hx hb dX4_tray_48 (by decide) ?_
          exact m_iret C w dX4_tray_56 (by omega) (by omega) (⟨by rw [hm, if_neg c_20, if_pos n_39], rfl⟩)
      · skip
        refine lv_aload_n hx hb dX4_tray_23 rfl (lv_at hl 0 rfl) ?_
        refine m_get C w hW.1 (index := 7) (T := TX4) (N := 16) rfl hi_X4 0 (by decide) (by decide +kernel) rfl dX4_tray_24 ?_
        refine lv_iload_n hx hb dX4_tray_27 rfl (lv_at hl 1 rfl) ?_
        refine m_topi (y := nI t) et ?_
        refine m_iald C w hW.a0 t rfl (by omega) (by omega) dX4_tray_28 ?_
        refine lv_goto (tgt := 56) hx hb dX4_tray_29 (by decide) ?_
        exact m_iret C w dX4_tray_56 (by omega) (by omega) (⟨by rw [hm, if_pos c_20], rfl⟩)
    · skip
      have n_13 : (inR w1 0 1) = false := bI_f c_13
      refine lv_bipush (v := (-6)) hx hb dX4_tray_16 (by decide) ?_
      exact m_iret C w dX4_tray_18 (by omega) (by omega) (⟨by unfold sp_tray; rw [if_pos (by first | (rw [n_4]; rfl) | (rw [show inP w1 2 = false from by rw [← inR_P (z := 1) (by omega)]; exact n_13, Bool.and_false]))], rfl⟩)
set_option maxRecDepth 100000 in
set_option maxHeartbeats 4000000 in
theorem r_told (l : Launch) (D : va_G) (y : mY) (S0 : Nat) (M F : mp) (m0 : Nat) (B : Nat → Nat) (fr : Nat → Nat) (nc : Nat) (cl go bf : Nat → Int64) (cn : Nat → Int32) (S : St) (hW : MW y m0 B fr nc cl go bf cn S M) (hQ : MR fr nc cl bf cn S) (c0 : Nat) (hI : Inv c0 S) (w1 : Int32) : ct l yX4_told wsX4_told 1 22 0 0 D y S0 M F [.ref m0, .int w1] (fun v M' => v = some (.int (sp_told S w1)) ∧ M' = M) := by
  refine ct_of cX4_told 2 (some .int) [(0, .ref m0), (1, .int w1)] (by decide +kernel) rfl (Nat.le_of_ble_eq_true rfl) rfl ?_
  intro p e s m below meth c ls C hnm hl w
  have hx := C.1
  have hb := C.2.1
  have hi_X4 : ∀ w ∈ u_ws RX4 TX4 16, w ∈ wsX4_told := by decide +kernel
  refine lv_iload_n hx hb dX4_told_0 rfl (lv_at hl 1 rfl) ?_
  refine lv_if_ne (tgt := 11) hx hb dX4_told_1 (by decide) (fun c_1 => ?_) (fun c_1 => ?_)
  · skip
    refine lv_iload_n hx hb dX4_told_11 rfl (lv_at hl 1 rfl) ?_
    refine lv_bipush (v := 7) hx hb dX4_told_12 (by decide) ?_
    refine lv_icmp_ne (tgt := 24) hx hb dX4_told_14 (by decide) (fun c_14 => ?_) (fun c_14 => ?_)
    · skip
      refine lv_iload_n hx hb dX4_told_24 rfl (lv_at hl 1 rfl) ?_
      refine lv_iconst (v := 1) hx hb dX4_told_25 (by decide) ?_
      refine lv_bipush (v := 6) hx hb dX4_told_26 (by decide) ?_
      refine m_callS C w hl.1 (As := [.int w1, .int 1, .int 6]) (rest := []) (r_in l D y S0 M F w1 1 6) ggX4_told_X4_in rfl (by decide +kernel) (by decide +kernel) (by decide +kernel) (show (_ ≠ _ ∧ _ ≠ _ ∧ _ = some 3) by decide +kernel) ⟨Nat.le_of_ble_eq_true rfl, Nat.le_of_ble_eq_true rfl⟩ rfl (Nat.le_of_ble_eq_true rfl) dX4_told_28 ⟨Nat.le_of_ble_eq_true rfl, Nat.le_of_ble_eq_true rfl⟩ (fun v M1 H locs hq w => ?_)
      obtain ⟨rfl, hM1⟩ := hq
      rw [hM1] at w
      clear hM1 M1
      refine W.eq (g2 := F0 m 31 ls [.int (bI (inR w1 1 6))]) rfl ?_
      refine lv_if_eq (tgt := 43) hx hb dX4_told_31 (by decide) (fun c_31 => ?_) (fun c_31 => ?_)
      · skip
        have n_31 : (inR w1 1 6) = false := bI_f c_31
        refine lv_bipush (v := (-6)) hx hb dX4_told_43 (by decide) ?_
        exact m_iret C w dX4_told_45 (by omega) (by omega) (⟨by unfold sp_told; rw [if_neg c_1, if_neg (by rw [show (!decide (w1 < 1) && !decide ((6 : Int32) < w1)) = false from n_31]; decide), if_neg c_14], rfl⟩)
      · skip
        have n_31 : (inR w1 1 6) = true := bI_t c_31
        have hin : inR w1 1 6 = true := n_31
        have hin0 := hin
        unfold inR at hin0
        simp only [Bool.and_eq_true, Bool.not_eq_true', decide_eq_false_iff_not] at hin0
        obtain ⟨j, hj, ej⟩ := nI_of2 (M := 6) (n := 6) rfl (fun q => hin0.1 (Int32.lt_trans q (by decide))) (Int32.not_lt.mp hin0.2)
        have hj1 : 1 ≤ j := by
          rcases Nat.eq_zero_or_pos j with h | h
          · rw [ej, h] at hin0; exact absurd (show nI 0 < 1 by decide) hin0.1
          · exact h
        refine lv_aload_n hx hb dX4_told_34 rfl (lv_at hl 0 rfl) ?_
        refine m_get C w hW.1 (index := 46) (T := TX4) (N := 16) rfl hi_X4 15 (by decide) (by decide +kernel) rfl dX4_told_35 ?_
        refine lv_iload_n hx hb dX4_told_38 rfl (lv_at hl 1 rfl) ?_
        refine m_topi (y := nI j) ej ?_
        refine m_iald C w hW.a10 j rfl (by omega) (by omega) dX4_told_39 ?_
        refine lv_goto (tgt := 45) hx hb dX4_told_40 (by decide) ?_
        exact m_iret C w dX4_told_45 (by omega) (by omega) (⟨by unfold sp_told; rw [if_neg c_1, if_pos (show (!decide (w1 < 1) && !decide ((6 : Int32) < w1)) = true from hin), ej, cN_nI (by omega), ← hQ.2.2.2.2.2.2 (j - 1) (by omega), show j - 1 + 1 = j by omega], rfl⟩)
    · skip
      refine lv_aload_n hx hb dX4_told_17 rfl (lv_at hl 0 rfl) ?_
      refine m_get C w hW.1 (index := 71) (T := TX4) (N := 16) rfl hi_X4 10 (by decide) (by decide +kernel) rfl dX4_told_18 ?_
      refine lv_goto (tgt := 45) hx hb dX4_told_21 (by decide) ?_
      exact m_iret C w dX4_told_45 (by omega) (by omega) (⟨by unfold sp_told; rw [if_neg c_1, if_neg (by rw [c_14]; decide), if_pos c_14], rfl⟩)
  · skip
    refine lv_aload_n hx hb dX4_told_4 rfl (lv_at hl 0 rfl) ?_
    refine m_get C w hW.1 (index := 102) (T := TX4) (N := 16) rfl hi_X4 14 (by decide) (by decide +kernel) rfl dX4_told_5 ?_
    refine lv_goto (tgt := 45) hx hb dX4_told_8 (by decide) ?_
    exact m_iret C w dX4_told_45 (by omega) (by omega) (⟨by unfold sp_told; rw [if_pos c_1], rfl⟩)
set_option maxRecDepth 100000 in
set_option maxHeartbeats 4000000 in
theorem r_what (l : Launch) (D : va_G) (y : mY) (S0 : Nat) (M F : mp) (m0 : Nat) (B : Nat → Nat) (fr : Nat → Nat) (nc : Nat) (cl go bf : Nat → Int64) (cn : Nat → Int32) (S : St) (hW : MW y m0 B fr nc cl go bf cn S M) (hQ : MR fr nc cl bf cn S) (c0 : Nat) (hI : Inv c0 S) (t1 i1 : Int32) : ct l yX4_what wsX4_what 2 44 0 0 D y S0 M F [.ref m0, .int t1, .int i1] (fun v M' => v = some (.int (sp_what S t1 i1)) ∧ M' = M) := by
  refine ct_of cX4_what 5 (some .int) [(0, .ref m0), (1, .int t1), (2, .int i1)] (by decide +kernel) rfl (Nat.le_of_ble_eq_true rfl) rfl ?_
  intro p e s m below meth c ls C hnm hl w
  have hx := C.1
  have hb := C.2.1
  have hi_X4 : ∀ w ∈ u_ws RX4 TX4 16, w ∈ wsX4_what := by decide +kernel
  refine lv_iload_n hx hb dX4_what_0 rfl (lv_at hl 1 rfl) ?_
  refine m_callS C w hl.1 (As := [.int t1]) (rest := []) (r_isTray l D y S0 M F t1) ggX4_what_X4_isTray rfl (by decide +kernel) (by decide +kernel) (by decide +kernel) (show (_ ≠ _ ∧ _ ≠ _ ∧ _ = some 1) by decide +kernel) ⟨Nat.le_of_ble_eq_true rfl, Nat.le_of_ble_eq_true rfl⟩ rfl (Nat.le_of_ble_eq_true rfl) dX4_what_1 ⟨Nat.le_of_ble_eq_true rfl, Nat.le_of_ble_eq_true rfl⟩ (fun v M1 H locs hq w => ?_)
  obtain ⟨rfl, hM1⟩ := hq
  rw [hM1] at w
  clear hM1 M1
  refine W.eq (g2 := F0 m 4 ls [.int (bI (inP t1 12))]) rfl ?_
  refine lv_if_ne (tgt := 10) hx hb dX4_what_4 (by decide) (fun c_4 => ?_) (fun c_4 => ?_)
  · skip
    have n_4 : (inP t1 12) = true := bI_t c_4
    obtain ⟨t, ht, et⟩ := inP_t (by decide) n_4
    have hz := zT_le hI ht
    have hk13 := (hI.2.2.2.2.2.2.1 t ht).1
    have hb1 := hI.1
    have hb2 := hI.2.1
    have hb3 := hI.2.2.1
    have hm0 : sp_what S t1 i1 = wha1 S t i1 := by unfold sp_what; rw [if_neg (by simp [n_4]), et, cN_nI (by omega)]
    refine lv_aload_n hx hb dX4_what_10 rfl (lv_at hl 0 rfl) ?_
    refine lv_iload_n hx hb dX4_what_11 rfl (lv_at hl 1 rfl) ?_
    refine m_topi (y := nI t) et ?_
    refine m_callV C w hl.1 (As := [.int (nI t)]) (rest := []) (r_isRow l D y S0 M F m0 B fr nc cl go bf bf cn S hW hQ c0 hI t ht) gX4_what_X4_isRow rfl hW.1 (T := TX4) (N := 16) rfl (show (_ = _ ∧ _ ≠ _ ∧ _ ≠ _ ∧ _ = some 1) by decide +kernel) ⟨Nat.le_of_ble_eq_true rfl, Nat.le_of_ble_eq_true rfl⟩ rfl (Nat.le_of_ble_eq_true rfl) dX4_what_12 ⟨Nat.le_of_ble_eq_true rfl, Nat.le_of_ble_eq_true rfl⟩ (fun v M1 H locs hq w => ?_)
    obtain ⟨rfl, hM1⟩ := hq
    rw [hM1] at w
    clear hM1 M1
    refine W.eq (g2 := F0 m 15 ls [.int (bI (decide (2 ≤ sH S t)))]) rfl ?_
    refine lv_if_ne (tgt := 24) hx hb dX4_what_15 (by decide) (fun c_15 => ?_) (fun c_15 => ?_)
    · skip
      have n_15 : (decide (2 ≤ sH S t)) = true := bI_t c_15
      have h2 : 2 ≤ sH S t := of_decide_eq_true n_15
      obtain ⟨eo, hr, ekd, hr5, hzT⟩ := rowI hI ht h2
      refine lv_iload_n hx hb dX4_what_24 rfl (lv_at hl 2 rfl) ?_
      refine lv_iconst (v := 0) hx hb dX4_what_25 (by decide) ?_
      refine lv_aload_n hx hb dX4_what_26 rfl (lv_at hl 0 rfl) ?_
      refine lv_iload_n hx hb dX4_what_27 rfl (lv_at hl 1 rfl) ?_
      refine m_topi (y := nI t) et ?_
      refine m_callV C w hl.1 (As := [.int (nI t)]) (rest := [.int 0, .int i1]) (r_sizeOf l D y S0 M F m0 B fr nc cl go bf bf cn S hW hQ c0 hI t ht) gX4_what_X4_sizeOf rfl hW.1 (T := TX4) (N := 16) rfl (show (_ = _ ∧ _ ≠ _ ∧ _ ≠ _ ∧ _ = some 1) by decide +kernel) ⟨Nat.le_of_ble_eq_true rfl, Nat.le_of_ble_eq_true rfl⟩ rfl (Nat.le_of_ble_eq_true rfl) dX4_what_28 ⟨Nat.le_of_ble_eq_true rfl, Nat.le_of_ble_eq_true rfl⟩ (fun v M1 H locs hq w => ?_)
      obtain ⟨rfl, hM1⟩ := hq
      rw [hM1] at w
      clear hM1 M1
      refine W.eq (g2 := F0 m 31 ls [.int (nI (zT S t)), .int 0, .int i1]) rfl ?_
      refine lv_iconst (v := 1) hx hb dX4_what_31 (by decide) ?_
      refine lv_isub hx hb dX4_what_32 ?_
      refine m_callS C w hl.1 (As := [.int i1, .int 0, .int ((nI (zT S t)) - 1)]) (rest := []) (r_in l D y S0 M F i1 0 (nI (zT S t) - 1)) ggX4_what_X4_in rfl (by decide +kernel) (by decide +kernel) (by decide +kernel) (show (_ ≠ _ ∧ _ ≠ _ ∧ _ = some 3) by decide +kernel) ⟨Nat.le_of_ble_eq_true rfl, Nat.le_of_ble_eq_true rfl⟩ rfl (Nat.le_of_ble_eq_true rfl) dX4_what_33 ⟨Nat.le_of_ble_eq_true rfl, Nat.le_of_ble_eq_true rfl⟩ (fun v M1 H locs hq w => ?_)
      rw [inR_m1 (by omega)] at hq
      obtain ⟨rfl, hM1⟩ := hq
      rw [hM1] at w
      clear hM1 M1
      refine W.eq (g2 := F0 m 36 ls [.int (bI (inP i1 (zT S t)))]) rfl ?_
      refine lv_if_ne (tgt := 42) hx hb dX4_what_36 (by decide) (fun c_36 => ?_) (fun c_36 => ?_)
      · skip
        have n_36 : (inP i1 (zT S t)) = true := bI_t c_36
        obtain ⟨i, hi, ei⟩ := inP_t (by omega) n_36
        have hxv := (hI.2.2.2.1 _ hr).2.2.2 i (by omega)
        have hat : atx S t i1 = sC S (rowT S t) i := by unfold atx; rw [ei, cN_nI (by omega)]
        refine lv_aload_n hx hb dX4_what_42 rfl (lv_at hl 0 rfl) ?_
        refine m_get C w hW.1 (index := 7) (T := TX4) (N := 16) rfl hi_X4 0 (by decide) (by decide +kernel) rfl dX4_what_43 ?_
        refine lv_iload_n hx hb dX4_what_46 rfl (lv_at hl 1 rfl) ?_
        refine m_topi (y := nI t) et ?_
        refine m_iald C w hW.a0 t rfl (by omega) (by omega) dX4_what_47 ?_
        refine m_callS C w hl.1 (As := [.int (nI (sH S t))]) (rest := []) (r_isN l D y S0 M F (sH S t) (by omega)) ggX4_what_X4_isNumbers rfl (by decide +kernel) (by decide +kernel) (by decide +kernel) (show (_ ≠ _ ∧ _ ≠ _ ∧ _ = some 1) by decide +kernel) ⟨Nat.le_of_ble_eq_true rfl, Nat.le_of_ble_eq_true rfl⟩ rfl (Nat.le_of_ble_eq_true rfl) dX4_what_48 ⟨Nat.le_of_ble_eq_true rfl, Nat.le_of_ble_eq_true rfl⟩ (fun v M1 H locs hq w => ?_)
        obtain ⟨rfl, hM1⟩ := hq
        rw [hM1] at w
        clear hM1 M1
        refine W.eq (g2 := F0 m 51 ls [.int (bI (isN (sH S t)))]) rfl ?_
        refine lv_if_eq (tgt := 56) hx hb dX4_what_51 (by decide) (fun c_51 => ?_) (fun c_51 => ?_)
        · skip
          have n_51 : (isN (sH S t)) = false := bI_f c_51
          refine lv_aload_n hx hb dX4_what_56 rfl (lv_at hl 0 rfl) ?_
          refine lv_iload_n hx hb dX4_what_57 rfl (lv_at hl 1 rfl) ?_
          refine m_topi (y := nI t) et ?_
          refine lv_iload_n hx hb dX4_what_58 rfl (lv_at hl 2 rfl) ?_
          refine m_topi (y := nI i) ei ?_
          refine m_callV C w hl.1 (As := [.int (nI t), .int (nI i)]) (rest := []) (r_get l D y S0 M F m0 B fr nc cl go bf bf cn S hW hQ c0 hI t ht h2 i hi) gX4_what_X4_get rfl hW.1 (T := TX4) (N := 16) rfl (show (_ = _ ∧ _ ≠ _ ∧ _ ≠ _ ∧ _ = some 2) by decide +kernel) ⟨Nat.le_of_ble_eq_true rfl, Nat.le_of_ble_eq_true rfl⟩ rfl (Nat.le_of_ble_eq_true rfl) dX4_what_59 ⟨Nat.le_of_ble_eq_true rfl, Nat.le_of_ble_eq_true rfl⟩ (fun v M1 H locs hq w => ?_)
          obtain ⟨rfl, hM1⟩ := hq
          rw [hM1] at w
          clear hM1 M1
          refine W.eq (g2 := F0 m 62 ls [.long (sC S (rowT S t) i)]) rfl ?_
          refine lv_lstore_n (lv' := [(3, .long (sC S (rowT S t) i)), (0, .ref m0), (1, .int t1), (2, .int i1)]) hx hb dX4_what_62 rfl hl (by decide) rfl (fun ls hl => ?_)
          refine lv_lload_n hx hb dX4_what_63 rfl (lv_at hl 0 rfl) ?_
          refine lv_lconst (v := 0) hx hb dX4_what_64 (by decide) ?_
          refine W.lcmp hx hb dX4_what_65 ?_
          refine lv_if_ne (tgt := 73) hx hb dX4_what_66 (by decide) (fun c_66 => ?_) (fun c_66 => ?_)
          · skip
            have n_66 := (not_congr (lg_cmp_eq _ _)).mp c_66
            refine lv_lload_n hx hb dX4_what_73 rfl (lv_at hl 0 rfl) ?_
            refine lv_lconst (v := 0) hx hb dX4_what_74 (by decide) ?_
            refine W.lcmp hx hb dX4_what_75 ?_
            refine lv_if_ge (tgt := 84) hx hb dX4_what_76 (by decide) (fun c_76 => ?_) (fun c_76 => ?_)
            · skip
              have n_76 := (lg_cmp_ge _ _).mp c_76
              obtain ⟨pz, p1, p2, ex⟩ : ∃ pz, 1 ≤ pz ∧ pz ≤ sP S ∧ sC S (rowT S t) i = lN pz := by
                rcases hxv with q | q | ⟨-, -, pz, a1, a2, a3⟩ | ⟨-, r2, hr2, -, a3⟩
                · have := isN_f n_51 h2; omega
                · exact absurd q n_66
                · exact ⟨pz, a1, a2, a3⟩
                · exact absurd (by rw [a3]; exact neg_lt (by omega)) (Int64.not_lt.mpr n_76)
              have hs4 := (hI.2.2.2.2.1 pz p1 p2).2
              refine lv_iconst (v := 1) hx hb dX4_what_84 (by decide) ?_
              refine lv_aload_n hx hb dX4_what_85 rfl (lv_at hl 1 rfl) ?_
              refine m_get C w hW.1 (index := 30) (T := TX4) (N := 16) rfl hi_X4 8 (by decide) (by decide +kernel) rfl dX4_what_86 ?_
              refine lv_lload_n hx hb dX4_what_89 rfl (lv_at hl 0 rfl) ?_
              refine lv_l2i (v := nI pz) hx hb dX4_what_90 (by rw [ex]; exact lN_i pz) ?_
              refine m_iald C w hW.a6 pz rfl (by omega) (by omega) dX4_what_91 ?_
              refine lv_iadd hx hb dX4_what_92 ?_
              refine m_topi (y := nI (1 + (sS S pz))) (by first | exact nI_add _ _ | exact nI_1 _) ?_
              exact m_iret C w dX4_what_93 (by omega) (by omega) (⟨by
                rw [hm0]
                unfold wha1
                rw [if_neg (by omega), if_neg (by rw [n_36]; decide), if_neg (by rw [n_51]; decide), hat]
                rw [if_neg n_66, if_neg (Int64.not_lt.mpr n_76), ex, lN_pN (by omega), Nat.add_comm], rfl⟩)
            · skip
              have n_76 := (not_congr (lg_cmp_ge _ _)).mp c_76
              refine lv_bipush (v := 6) hx hb dX4_what_79 (by decide) ?_
              refine lv_goto (tgt := 93) hx hb dX4_what_81 (by decide) ?_
              exact m_iret C w dX4_what_93 (by omega) (by omega) (⟨by
                rw [hm0]
                unfold wha1
                rw [if_neg (by omega), if_neg (by rw [n_36]; decide), if_neg (by rw [n_51]; decide), hat]
                rw [if_neg n_66, if_pos (Int64.not_le.mp n_76)], rfl⟩)
          · skip
            have n_66 := (lg_cmp_eq _ _).mp c_66
            refine lv_iconst (v := 0) hx hb dX4_what_69 (by decide) ?_
            refine lv_goto (tgt := 93) hx hb dX4_what_70 (by decide) ?_
            exact m_iret C w dX4_what_93 (by omega) (by omega) (⟨by
              rw [hm0]
              unfold wha1
              rw [if_neg (by omega), if_neg (by rw [n_36]; decide), if_neg (by rw [n_51]; decide), hat]
              rw [if_pos n_66], rfl⟩)
        · skip
          have n_51 : (isN (sH S t)) = true := bI_t c_51
          refine lv_iconst (v := 1) hx hb dX4_what_54 (by decide) ?_
          exact m_iret C w dX4_what_55 (by omega) (by omega) (⟨by rw [hm0]; unfold wha1; rw [if_neg (by omega), if_neg (by rw [n_36]; decide), if_pos n_51], rfl⟩)
      · skip
        have n_36 : (inP i1 (zT S t)) = false := bI_f c_36
        refine lv_bipush (v := (-4)) hx hb dX4_what_39 (by decide) ?_
        exact m_iret C w dX4_what_41 (by omega) (by omega) (⟨by rw [hm0]; unfold wha1; rw [if_neg (by omega), if_pos n_36], rfl⟩)
    · skip
      have n_15 : (decide (2 ≤ sH S t)) = false := bI_f c_15
      refine lv_aload_n hx hb dX4_what_18 rfl (lv_at hl 0 rfl) ?_
      refine lv_iload_n hx hb dX4_what_19 rfl (lv_at hl 1 rfl) ?_
      refine m_topi (y := nI t) et ?_
      refine m_callV C w hl.1 (As := [.int (nI t)]) (rest := []) (r_lacks l D y S0 M F m0 B fr nc cl go bf bf cn S hW hQ c0 hI t ht) gX4_what_X4_lacks rfl hW.1 (T := TX4) (N := 16) rfl (show (_ = _ ∧ _ ≠ _ ∧ _ ≠ _ ∧ _ = some 1) by decide +kernel) ⟨Nat.le_of_ble_eq_true rfl, Nat.le_of_ble_eq_true rfl⟩ rfl (Nat.le_of_ble_eq_true rfl) dX4_what_20 ⟨Nat.le_of_ble_eq_true rfl, Nat.le_of_ble_eq_true rfl⟩ (fun v M1 H locs hq w => ?_)
      obtain ⟨rfl, hM1⟩ := hq
      rw [hM1] at w
      clear hM1 M1
      refine W.eq (g2 := F0 m 23 ls [.int (fR (sH S t))]) rfl ?_
      exact m_iret C w dX4_what_23 (by omega) (by omega) (⟨by rw [hm0]; unfold wha1; rw [if_pos (by have := of_decide_eq_false n_15; omega)], rfl⟩)
  · skip
    have n_4 : (inP t1 12) = false := bI_f c_4
    refine lv_bipush (v := (-6)) hx hb dX4_what_7 (by decide) ?_
    exact m_iret C w dX4_what_9 (by omega) (by omega) (⟨by unfold sp_what; rw [if_pos n_4], rfl⟩)
set_option maxRecDepth 100000 in
set_option maxHeartbeats 4000000 in
theorem r_polish (l : Launch) (D : va_G) (y : mY) (S0 : Nat) (M F : mp) (m0 : Nat) (B : Nat → Nat) (fr : Nat → Nat) (nc : Nat) (cl go bf : Nat → Int64) (cn : Nat → Int32) (S : St) (hW : MW y m0 B fr nc cl go bf cn S M) (hQ : MR fr nc cl bf cn S) (c0 : Nat) (hI : Inv c0 S) (t1 i1 m1 : Int32) : ct l yX4_polish wsX4_polish 2 42 0 0 D y S0 M F [.ref m0, .int t1, .int i1, .int m1] (fun v M' => v = some (.int (sp_polish S t1 i1 m1).1) ∧ RM y m0 (sp_polish S t1 i1 m1).2 M') := by
  refine ct_of cX4_polish 5 (some .int) [(0, .ref m0), (1, .int t1), (2, .int i1), (3, .int m1)] (by decide +kernel) rfl (Nat.le_of_ble_eq_true rfl) rfl ?_
  intro p e s m below meth c ls C hnm hl w
  have hx := C.1
  have hb := C.2.1
  have hi_X4 : ∀ w ∈ u_ws RX4 TX4 16, w ∈ wsX4_polish := by decide +kernel
  refine lv_iload_n hx hb dX4_polish_0 rfl (lv_at hl 1 rfl) ?_
  refine m_callS C w hl.1 (As := [.int t1]) (rest := []) (r_isTray l D y S0 M F t1) ggX4_polish_X4_isTray rfl (by decide +kernel) (by decide +kernel) (by decide +kernel) (show (_ ≠ _ ∧ _ ≠ _ ∧ _ = some 1) by decide +kernel) ⟨Nat.le_of_ble_eq_true rfl, Nat.le_of_ble_eq_true rfl⟩ rfl (Nat.le_of_ble_eq_true rfl) dX4_polish_1 ⟨Nat.le_of_ble_eq_true rfl, Nat.le_of_ble_eq_true rfl⟩ (fun v M1 H locs hq w => ?_)
  obtain ⟨rfl, hM1⟩ := hq
  rw [hM1] at w
  clear hM1 M1
  refine W.eq (g2 := F0 m 4 ls [.int (bI (inP t1 12))]) rfl ?_
  refine lv_if_ne (tgt := 10) hx hb dX4_polish_4 (by decide) (fun c_4 => ?_) (fun c_4 => ?_)
  · skip
    have n_4 : (inP t1 12) = true := bI_t c_4
    obtain ⟨t, ht, et⟩ := inP_t (by decide) n_4
    have hz := zT_le hI ht
    have hk13 := (hI.2.2.2.2.2.2.1 t ht).1
    have hb1 := hI.1
    have hb2 := hI.2.1
    have hb3 := hI.2.2.1
    have hm0 : sp_polish S t1 i1 m1 = pol1 S t i1 m1 := by unfold sp_polish; rw [if_neg (by simp [n_4]), et, cN_nI (by omega)]
    refine lv_aload_n hx hb dX4_polish_10 rfl (lv_at hl 0 rfl) ?_
    refine lv_iload_n hx hb dX4_polish_11 rfl (lv_at hl 1 rfl) ?_
    refine m_topi (y := nI t) et ?_
    refine m_callV C w hl.1 (As := [.int (nI t)]) (rest := []) (r_isRow l D y S0 M F m0 B fr nc cl go bf bf cn S hW hQ c0 hI t ht) gX4_polish_X4_isRow rfl hW.1 (T := TX4) (N := 16) rfl (show (_ = _ ∧ _ ≠ _ ∧ _ ≠ _ ∧ _ = some 1) by decide +kernel) ⟨Nat.le_of_ble_eq_true rfl, Nat.le_of_ble_eq_true rfl⟩ rfl (Nat.le_of_ble_eq_true rfl) dX4_polish_12 ⟨Nat.le_of_ble_eq_true rfl, Nat.le_of_ble_eq_true rfl⟩ (fun v M1 H locs hq w => ?_)
    obtain ⟨rfl, hM1⟩ := hq
    rw [hM1] at w
    clear hM1 M1
    refine W.eq (g2 := F0 m 15 ls [.int (bI (decide (2 ≤ sH S t)))]) rfl ?_
    refine lv_if_ne (tgt := 24) hx hb dX4_polish_15 (by decide) (fun c_15 => ?_) (fun c_15 => ?_)
    · skip
      have n_15 : (decide (2 ≤ sH S t)) = true := bI_t c_15
      have h2 : 2 ≤ sH S t := of_decide_eq_true n_15
      obtain ⟨eo, hr, ekd, hr5, hzT⟩ := rowI hI ht h2
      refine lv_aload_n hx hb dX4_polish_24 rfl (lv_at hl 0 rfl) ?_
      refine m_get C w hW.1 (index := 7) (T := TX4) (N := 16) rfl hi_X4 0 (by decide) (by decide +kernel) rfl dX4_polish_25 ?_
      refine lv_iload_n hx hb dX4_polish_28 rfl (lv_at hl 1 rfl) ?_
      refine m_topi (y := nI t) et ?_
      refine m_iald C w hW.a0 t rfl (by omega) (by omega) dX4_polish_29 ?_
      refine lv_bipush (v := 10) hx hb dX4_polish_30 (by decide) ?_
      refine lv_bipush (v := 12) hx hb dX4_polish_32 (by decide) ?_
      refine m_callS C w hl.1 (As := [.int (nI (sH S t)), .int 10, .int 12]) (rest := []) (r_in l D y S0 M F (nI (sH S t)) 10 12) ggX4_polish_X4_in rfl (by decide +kernel) (by decide +kernel) (by decide +kernel) (show (_ ≠ _ ∧ _ ≠ _ ∧ _ = some 3) by decide +kernel) ⟨Nat.le_of_ble_eq_true rfl, Nat.le_of_ble_eq_true rfl⟩ rfl (Nat.le_of_ble_eq_true rfl) dX4_polish_34 ⟨Nat.le_of_ble_eq_true rfl, Nat.le_of_ble_eq_true rfl⟩ (fun v M1 H locs hq w => ?_)
      obtain ⟨rfl, hM1⟩ := hq
      rw [hM1] at w
      clear hM1 M1
      refine W.eq (g2 := F0 m 37 ls [.int (bI (inR (nI (sH S t)) 10 12))]) rfl ?_
      refine lv_if_ne (tgt := 43) hx hb dX4_polish_37 (by decide) (fun c_37 => ?_) (fun c_37 => ?_)
      · skip
        have n_37 : (inR (nI (sH S t)) 10 12) = true := bI_t c_37
        have hcd0 : (isN (sH S t) || decide (sH S t = 13)) = false := by
          have h9 := inR_1012 h2 hk13
          rw [n_37] at h9
          cases h8 : (isN (sH S t) || decide (sH S t = 13)) with
          | false => rfl
          | true => rw [h8] at h9; cases h9
        refine lv_iload_n hx hb dX4_polish_43 rfl (lv_at hl 2 rfl) ?_
        refine lv_iconst (v := 0) hx hb dX4_polish_44 (by decide) ?_
        refine lv_aload_n hx hb dX4_polish_45 rfl (lv_at hl 0 rfl) ?_
        refine lv_iload_n hx hb dX4_polish_46 rfl (lv_at hl 1 rfl) ?_
        refine m_topi (y := nI t) et ?_
        refine m_callV C w hl.1 (As := [.int (nI t)]) (rest := [.int 0, .int i1]) (r_sizeOf l D y S0 M F m0 B fr nc cl go bf bf cn S hW hQ c0 hI t ht) gX4_polish_X4_sizeOf rfl hW.1 (T := TX4) (N := 16) rfl (show (_ = _ ∧ _ ≠ _ ∧ _ ≠ _ ∧ _ = some 1) by decide +kernel) ⟨Nat.le_of_ble_eq_true rfl, Nat.le_of_ble_eq_true rfl⟩ rfl (Nat.le_of_ble_eq_true rfl) dX4_polish_47 ⟨Nat.le_of_ble_eq_true rfl, Nat.le_of_ble_eq_true rfl⟩ (fun v M1 H locs hq w => ?_)
        obtain ⟨rfl, hM1⟩ := hq
        rw [hM1] at w
        clear hM1 M1
        refine W.eq (g2 := F0 m 50 ls [.int (nI (zT S t)), .int 0, .int i1]) rfl ?_
        refine lv_iconst (v := 1) hx hb dX4_polish_50 (by decide) ?_
        refine lv_isub hx hb dX4_polish_51 ?_
        refine m_callS C w hl.1 (As := [.int i1, .int 0, .int ((nI (zT S t)) - 1)]) (rest := []) (r_in l D y S0 M F i1 0 (nI (zT S t) - 1)) ggX4_polish_X4_in rfl (by decide +kernel) (by decide +kernel) (by decide +kernel) (show (_ ≠ _ ∧ _ ≠ _ ∧ _ = some 3) by decide +kernel) ⟨Nat.le_of_ble_eq_true rfl, Nat.le_of_ble_eq_true rfl⟩ rfl (Nat.le_of_ble_eq_true rfl) dX4_polish_52 ⟨Nat.le_of_ble_eq_true rfl, Nat.le_of_ble_eq_true rfl⟩ (fun v M1 H locs hq w => ?_)
        rw [inR_m1 (by omega)] at hq
        obtain ⟨rfl, hM1⟩ := hq
        rw [hM1] at w
        clear hM1 M1
        refine W.eq (g2 := F0 m 55 ls [.int (bI (inP i1 (zT S t)))]) rfl ?_
        refine lv_if_ne (tgt := 61) hx hb dX4_polish_55 (by decide) (fun c_55 => ?_) (fun c_55 => ?_)
        · skip
          have n_55 : (inP i1 (zT S t)) = true := bI_t c_55
          obtain ⟨i, hi, ei⟩ := inP_t (by omega) n_55
          have hxv := (hI.2.2.2.1 _ hr).2.2.2 i (by omega)
          have hat : atx S t i1 = sC S (rowT S t) i := by unfold atx; rw [ei, cN_nI (by omega)]
          have hcd : (isN (sH S t) || decide (sH S t = 13)) = false := by
            have h9 := inR_1012 h2 hk13
            rw [n_37] at h9
            cases h8 : (isN (sH S t) || decide (sH S t = 13)) with
            | false => rfl
            | true => rw [h8] at h9; cases h9
          have hcd2 := hcd
          simp only [Bool.or_eq_false_iff, decide_eq_false_iff_not] at hcd2
          refine lv_aload_n hx hb dX4_polish_61 rfl (lv_at hl 0 rfl) ?_
          refine lv_iload_n hx hb dX4_polish_62 rfl (lv_at hl 1 rfl) ?_
          refine m_topi (y := nI t) et ?_
          refine lv_iload_n hx hb dX4_polish_63 rfl (lv_at hl 2 rfl) ?_
          refine m_topi (y := nI i) ei ?_
          refine m_callV C w hl.1 (As := [.int (nI t), .int (nI i)]) (rest := []) (r_get l D y S0 M F m0 B fr nc cl go bf bf cn S hW hQ c0 hI t ht h2 i hi) gX4_polish_X4_get rfl hW.1 (T := TX4) (N := 16) rfl (show (_ = _ ∧ _ ≠ _ ∧ _ ≠ _ ∧ _ = some 2) by decide +kernel) ⟨Nat.le_of_ble_eq_true rfl, Nat.le_of_ble_eq_true rfl⟩ rfl (Nat.le_of_ble_eq_true rfl) dX4_polish_64 ⟨Nat.le_of_ble_eq_true rfl, Nat.le_of_ble_eq_true rfl⟩ (fun v M1 H locs hq w => ?_)
          obtain ⟨rfl, hM1⟩ := hq
          rw [hM1] at w
          clear hM1 M1
          refine W.eq (g2 := F0 m 67 ls [.long (sC S (rowT S t) i)]) rfl ?_
          rcases (show sC S (rowT S t) i = 0 ∨ ∃ pz, 1 ≤ pz ∧ pz ≤ sP S ∧ sC S (rowT S t) i = lN pz by
            rcases hxv with q | q | ⟨-, -, pz, a1, a2, a3⟩ | ⟨q, -⟩
            · have := isN_f hcd2.1 h2; omega
            · exact Or.inl q
            · exact Or.inr ⟨pz, a1, a2, a3⟩
            · exact absurd (ekd.symm.trans q) hcd2.2) with ex | ⟨pz, p1, p2, ex⟩
          · skip
            refine lv_l2i (v := 0) hx hb dX4_polish_67 (by rw [ex]; rfl) ?_
            refine lv_istore (lv' := [(4, .int 0), (0, .ref m0), (1, .int t1), (2, .int i1), (3, .int m1)]) hx hb dX4_polish_68 hl (by decide) rfl (fun ls hl => ?_)
            refine lv_iload hx hb dX4_polish_70 (lv_at hl 0 rfl) ?_
            refine lv_if_ne (tgt := 77) hx hb dX4_polish_72 (by decide) (fun h => absurd h (by decide)) (fun _ => ?_)
            refine lv_iconst (v := (-1)) hx hb dX4_polish_75 (by decide) ?_
            exact m_iret C w dX4_polish_76 (by omega) (by omega) (⟨by rw [(show sp_polish S t1 i1 m1 = (-1, S) by rw [hm0]; unfold pol1; rw [if_neg (by omega), if_neg (by rw [hcd]; decide), if_neg (by rw [n_55]; decide), hat, if_pos ex])], by rw [(show sp_polish S t1 i1 m1 = (-1, S) by rw [hm0]; unfold pol1; rw [if_neg (by omega), if_neg (by rw [hcd]; decide), if_neg (by rw [n_55]; decide), hat, if_pos ex])]; exact ⟨B, fr, nc, cl, go, bf, cn, hW, hQ⟩⟩)
          · skip
            refine lv_l2i (v := nI pz) hx hb dX4_polish_67 (by rw [ex]; exact lN_i pz) ?_
            refine lv_istore (lv' := [(4, .int (nI pz)), (0, .ref m0), (1, .int t1), (2, .int i1), (3, .int m1)]) hx hb dX4_polish_68 hl (by decide) rfl (fun ls hl => ?_)
            refine lv_iload hx hb dX4_polish_70 (lv_at hl 0 rfl) ?_
            refine lv_if_ne (tgt := 77) hx hb dX4_polish_72 (by decide) (fun c_72 => ?_) (fun c_72 => ?_)
            · skip
              have n_72 : ¬ pz = 0 := fun h => absurd ((nI_eq (by omega) (by omega)).mpr h) c_72
              refine lv_aload_n hx hb dX4_polish_77 rfl (lv_at hl 1 rfl) ?_
              refine m_get C w hW.1 (index := 33) (T := TX4) (N := 16) rfl hi_X4 9 (by decide) (by decide +kernel) rfl dX4_polish_78 ?_
              refine lv_iload hx hb dX4_polish_81 (lv_at hl 0 rfl) ?_
              refine lv_dup2_11 hx hb dX4_polish_83 rfl rfl ?_
              refine m_iald C w hW.a7 pz rfl (by omega) (by omega) dX4_polish_84 ?_
              refine lv_iload_n hx hb dX4_polish_85 rfl (lv_at hl 4 rfl) ?_
              refine lv_iadd hx hb dX4_polish_86 ?_
              refine m_iast C w hW.a7 pz rfl (by omega) (by omega) dX4_polish_87 (fun H locs w => ?_)
              have hV1 := hW.set (nc' := nc) (fr' := fr) (cl' := cl) (go' := go) (bf' := bf) (cn' := cn) (S' := (wPo S (va_up (sL S) pz (sL S pz + m1)))) 7 (by decide) rfl (by intro k hk hne; rcases (show k = 0 ∨ k = 1 ∨ k = 2 ∨ k = 3 ∨ k = 4 ∨ k = 5 ∨ k = 6 ∨ k = 7 ∨ k = 8 ∨ k = 9 ∨ k = 10 by omega) with rfl | rfl | rfl | rfl | rfl | rfl | rfl | rfl | rfl | rfl | rfl <;> first | rfl | exact absurd rfl hne) rfl
              obtain ⟨N1, w, hV1⟩ : ∃ N, mS D S0 N F s H locs ∧ MW y m0 B fr nc cl go bf cn (wPo S (va_up (sL S) pz (sL S pz + m1))) N := ⟨_, w, hV1⟩
              refine lv_iload hx hb dX4_polish_88 (lv_at hl 0 rfl) ?_
              exact m_iret C w dX4_polish_90 (by omega) (by omega) (⟨by rw [(show sp_polish S t1 i1 m1 = (nI pz, wPo S (va_up (sL S) pz (sL S pz + m1))) by rw [hm0]; unfold pol1; rw [if_neg (by omega), if_neg (by rw [hcd]; decide), if_neg (by rw [n_55]; decide), hat, ex, if_neg (lN_ne (by omega) p1), lN_pN (by omega)])], by rw [(show sp_polish S t1 i1 m1 = (nI pz, wPo S (va_up (sL S) pz (sL S pz + m1))) by rw [hm0]; unfold pol1; rw [if_neg (by omega), if_neg (by rw [hcd]; decide), if_neg (by rw [n_55]; decide), hat, ex, if_neg (lN_ne (by omega) p1), lN_pN (by omega)])]; exact ⟨B, fr, nc, cl, go, bf, cn, hV1, hQ⟩⟩)
            · skip
              have n_72 : pz = 0 := (nI_eq (by omega) (by omega)).mp (by first | exact c_72 | exact Classical.not_not.mp c_72)
              exact absurd n_72 (by omega)
        · skip
          have n_55 : (inP i1 (zT S t)) = false := bI_f c_55
          refine lv_bipush (v := (-4)) hx hb dX4_polish_58 (by decide) ?_
          exact m_iret C w dX4_polish_60 (by omega) (by omega) (⟨by rw [(show sp_polish S t1 i1 m1 = (-4, S) by rw [hm0]; unfold pol1; rw [if_neg (by omega), if_neg (by rw [hcd0]; decide), if_pos n_55])], by rw [(show sp_polish S t1 i1 m1 = (-4, S) by rw [hm0]; unfold pol1; rw [if_neg (by omega), if_neg (by rw [hcd0]; decide), if_pos n_55])]; exact ⟨B, fr, nc, cl, go, bf, cn, hW, hQ⟩⟩)
      · skip
        have n_37 : (inR (nI (sH S t)) 10 12) = false := bI_f c_37
        have hcd1 : (isN (sH S t) || decide (sH S t = 13)) = true := by
          have h9 := inR_1012 h2 hk13
          rw [n_37] at h9
          cases h8 : (isN (sH S t) || decide (sH S t = 13)) with
          | true => rfl
          | false => rw [h8] at h9; cases h9
        have hm3 : sp_polish S t1 i1 m1 = (-3, S) := (by rw [hm0]; unfold pol1; rw [if_neg (by omega), if_pos hcd1])
        refine lv_bipush (v := (-3)) hx hb dX4_polish_40 (by decide) ?_
        exact m_iret C w dX4_polish_42 (by omega) (by omega) (⟨by rw [hm3], by rw [hm3]; exact ⟨B, fr, nc, cl, go, bf, cn, hW, hQ⟩⟩)
    · skip
      have n_15 : (decide (2 ≤ sH S t)) = false := bI_f c_15
      refine lv_aload_n hx hb dX4_polish_18 rfl (lv_at hl 0 rfl) ?_
      refine lv_iload_n hx hb dX4_polish_19 rfl (lv_at hl 1 rfl) ?_
      refine m_topi (y := nI t) et ?_
      refine m_callV C w hl.1 (As := [.int (nI t)]) (rest := []) (r_lacks l D y S0 M F m0 B fr nc cl go bf bf cn S hW hQ c0 hI t ht) gX4_polish_X4_lacks rfl hW.1 (T := TX4) (N := 16) rfl (show (_ = _ ∧ _ ≠ _ ∧ _ ≠ _ ∧ _ = some 1) by decide +kernel) ⟨Nat.le_of_ble_eq_true rfl, Nat.le_of_ble_eq_true rfl⟩ rfl (Nat.le_of_ble_eq_true rfl) dX4_polish_20 ⟨Nat.le_of_ble_eq_true rfl, Nat.le_of_ble_eq_true rfl⟩ (fun v M1 H locs hq w => ?_)
      obtain ⟨rfl, hM1⟩ := hq
      rw [hM1] at w
      clear hM1 M1
      refine W.eq (g2 := F0 m 23 ls [.int (fR (sH S t))]) rfl ?_
      exact m_iret C w dX4_polish_23 (by omega) (by omega) (⟨by rw [(show sp_polish S t1 i1 m1 = (fR (sH S t), S) by rw [hm0]; unfold pol1; rw [if_pos (by have := of_decide_eq_false n_15; omega)])], by rw [(show sp_polish S t1 i1 m1 = (fR (sH S t), S) by rw [hm0]; unfold pol1; rw [if_pos (by have := of_decide_eq_false n_15; omega)])]; exact ⟨B, fr, nc, cl, go, bf, cn, hW, hQ⟩⟩)
  · skip
    have n_4 : (inP t1 12) = false := bI_f c_4
    refine lv_bipush (v := (-6)) hx hb dX4_polish_7 (by decide) ?_
    exact m_iret C w dX4_polish_9 (by omega) (by omega) (⟨by rw [(show sp_polish S t1 i1 m1 = (-6, S) by unfold sp_polish; rw [if_pos (by first | (simp [n_4]; done))])], by rw [(show sp_polish S t1 i1 m1 = (-6, S) by unfold sp_polish; rw [if_pos (by first | (simp [n_4]; done))])]; exact ⟨B, fr, nc, cl, go, bf, cn, hW, hQ⟩⟩)
