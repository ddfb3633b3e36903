theorem lt_s1 {z : Nat} {x : Int32} (hz : z < 2 ^ 30) : nI z < x ↔ nI (z + 1) ≤ x := by
  rw [Int32.lt_iff_toInt_lt, Int32.le_iff_toInt_le, nI_toInt (by omega), nI_toInt (by omega)]
  omega
theorem nI_min {a b : Nat} (ha : a < 2 ^ 31) (hb : b < 2 ^ 31) : (if nI b < nI a then nI b else nI a) = nI (min a b) := by
  by_cases h : b < a
  · rw [if_pos ((nI_ltI hb ha).mpr h), Nat.min_eq_right (Nat.le_of_lt h)]
  · rw [if_neg (fun q => h ((nI_ltI hb ha).mp q)), Nat.min_eq_left (by omega)]
theorem th_inj {c : Nat} {y : mY} {h0 : Nat} {A : Ad} {tr : Nat → Nat} {f : Nat → Nat → Int64} {g : Nat → Nat → Option Nat} {S : St} {M : mp} (hI : Inv c S) (hC : CW y h0 A tr f g S M) {ka kb : Nat} {x z : Int64} (ha : 2 ≤ ka) (hb : 2 ≤ kb) (hu : ¬ ((isN ka || isN kb) = true ∧ ka ≠ kb)) (hx : val S ka x) (hz : val S kb z) : (nu ka x = nu kb z ∧ th A ka x = th A kb z) ↔ x = z := by
  constructor
  · intro ⟨h1, h2⟩
    by_cases e : ka ≤ 9
    · have ek : ka = kb := Classical.byContradiction fun q => hu ⟨by simp [isN]; omega, q⟩
      subst ek
      unfold nu at h1
      rw [if_pos e, if_pos e] at h1
      exact h1
    · have e2 : ¬ kb ≤ 9 := fun h => by
        by_cases ek : ka = kb
        · omega
        · exact hu ⟨by simp [isN]; omega, ek⟩
      have hbd := hI.2.2.1
      have hN := hI.1
      have hP := hI.2.1
      unfold th at h2
      rw [if_neg e, if_neg e2] at h2
      have cls : ∀ p r, 1 ≤ p → p ≤ sP S → r < sN S → xp A p ≠ xr A r := fun p r p1 p2 hr => m_ne (hC.1.2.2.2.2.2.2.1 p p1 p2) (hC.1.2.2.2.2.2.1 r hr) (by simp)
      rcases hx with q | rfl | ⟨-, -, p, p1, p2, rfl⟩ | ⟨-, r, hr, -, rfl⟩
      · exact absurd q e
      · rcases hz with q | rfl | ⟨-, -, p', p1', p2', rfl⟩ | ⟨-, r', hr', -, rfl⟩
        · exact absurd q e2
        · rfl
        · rw [if_pos rfl, if_neg (lN_ne (by omega) p1'), if_neg (lN_nn (by omega))] at h2; cases h2
        · rw [if_pos rfl, if_neg (neg_ne (by omega)), if_pos (neg_lt (by omega))] at h2; cases h2
      · rw [if_neg (lN_ne (by omega) p1), if_neg (lN_nn (by omega)), lN_pN (by omega)] at h2
        rcases hz with q | rfl | ⟨-, -, p', p1', p2', rfl⟩ | ⟨-, r', hr', -, rfl⟩
        · exact absurd q e2
        · rw [if_pos rfl] at h2; cases h2
        · rw [if_neg (lN_ne (by omega) p1'), if_neg (lN_nn (by omega)), lN_pN (by omega)] at h2
          rw [hC.2.2.2.2.2.2 p p' p1 p2 p1' p2' (Option.some.inj h2)]
        · rw [if_neg (neg_ne (by omega)), if_pos (neg_lt (by omega)), neg_rN (by omega)] at h2
          exact absurd (Option.some.inj h2) (cls p r' p1 p2 hr')
      · rw [if_neg (neg_ne (by omega)), if_pos (neg_lt (by omega)), neg_rN (by omega)] at h2
        rcases hz with q | rfl | ⟨-, -, p', p1', p2', rfl⟩ | ⟨-, r', hr', -, rfl⟩
        · exact absurd q e2
        · rw [if_pos rfl] at h2; cases h2
        · rw [if_neg (lN_ne (by omega) p1'), if_neg (lN_nn (by omega)), lN_pN (by omega)] at h2
          exact absurd (Option.some.inj h2).symm (cls p' r p1' p2' hr)
        · rw [if_neg (neg_ne (by omega)), if_pos (neg_lt (by omega)), neg_rN (by omega)] at h2
          rw [hC.2.2.2.2.2.1 r r' hr hr' (Option.some.inj h2)]
  · rintro rfl
    exact kin_nu ha hb hu A x
set_option maxRecDepth 100000 in
set_option maxHeartbeats 4000000 in
theorem c_match (l : Launch) (D : va_G) (y : mY) (S0 : Nat) (M F : mp) (h0 : Nat) (A : Ad) (tr : Nat → Nat) (f : Nat → Nat → Int64) (g : Nat → Nat → Option Nat) (S : St) (hC : CW y h0 A tr f g S M) (c0 : Nat) (hI : Inv c0 S) (hR : CR A f g S) (a1 p1 b1 q1 n1 : Int32) : ct l yX3_match wsX3_match 2 42 0 0 D y S0 M F [.ref h0, .int a1, .int p1, .int b1, .int q1, .int n1] (fun v M' => v = some (.int (sp_match S a1 p1 b1 q1 n1)) ∧ M' = M) := by
  refine ct_of cX3_match 11 (some .int) [(0, .ref h0), (1, .int a1), (2, .int p1), (3, .int b1), (4, .int q1), (5, .int n1)] (by decide +kernel) rfl (Nat.le_of_ble_eq_true rfl) rfl ?_
  intro p e s m below meth c ls C hnm hl w
  have hx := C.1
  have hb := C.2.1
  have hi_X0 : ∀ w ∈ u_ws RX0 TX0 5, w ∈ wsX3_match := by decide +kernel
  have hi_X3 : ∀ w ∈ u_ws RX3 TX3 7, w ∈ wsX3_match := by decide +kernel
  refine lv_iload_n hx hb dX3_match_0 rfl (lv_at hl 1 rfl) ?_
  refine m_callS C w hl.1 (As := [.int a1]) (rest := []) (c_isTray l D y S0 M F a1) ggX3_match_X3_isTray rfl (by decide +kernel) (by decide +kernel) (by decide +kernel) (show (_ ≠ _ ∧ _ ≠ _ ∧ _ = some 1) by decide +kernel) ⟨Nat.le_of_ble_eq_true rfl, Nat.le_of_ble_eq_true rfl⟩ rfl (Nat.le_of_ble_eq_true rfl) dX3_match_1 ⟨Nat.le_of_ble_eq_true rfl, Nat.le_of_ble_eq_true rfl⟩ (fun v M1 H locs hq w => ?_)
  obtain ⟨rfl, hM1⟩ := hq
  rw [hM1] at w
  clear hM1 M1
  refine W.eq (g2 := F0 m 4 ls [.int (bI (inP a1 12))]) rfl ?_
  refine lv_if_eq (tgt := 14) hx hb dX3_match_4 (by decide) (fun c_4 => ?_) (fun c_4 => ?_)
  · skip
    have n_4 : (inP a1 12) = false := bI_f c_4
    refine lv_bipush (v := (-6)) hx hb dX3_match_14 (by decide) ?_
    exact m_iret C w dX3_match_16 (by omega) (by omega) (⟨by unfold sp_match; rw [if_pos (by first | simp [n_4, n_11] | simp [n_4])], rfl⟩)
  · skip
    have n_4 : (inP a1 12) = true := bI_t c_4
    refine lv_iload_n hx hb dX3_match_7 rfl (lv_at hl 3 rfl) ?_
    refine m_callS C w hl.1 (As := [.int b1]) (rest := []) (c_isTray l D y S0 M F b1) ggX3_match_X3_isTray rfl (by decide +kernel) (by decide +kernel) (by decide +kernel) (show (_ ≠ _ ∧ _ ≠ _ ∧ _ = some 1) by decide +kernel) ⟨Nat.le_of_ble_eq_true rfl, Nat.le_of_ble_eq_true rfl⟩ rfl (Nat.le_of_ble_eq_true rfl) dX3_match_8 ⟨Nat.le_of_ble_eq_true rfl, Nat.le_of_ble_eq_true rfl⟩ (fun v M1 H locs hq w => ?_)
    obtain ⟨rfl, hM1⟩ := hq
    rw [hM1] at w
    clear hM1 M1
    refine W.eq (g2 := F0 m 11 ls [.int (bI (inP b1 12))]) rfl ?_
    refine lv_if_ne (tgt := 17) hx hb dX3_match_11 (by decide) (fun c_11 => ?_) (fun c_11 => ?_)
    · skip
      have n_11 : (inP b1 12) = true := bI_t c_11
      obtain ⟨ta, hta, ea⟩ := inP_t (by decide) n_4
      obtain ⟨tb, htb, eb⟩ := inP_t (by decide) n_11
      obtain ⟨tka, naa, taa, hqa, -, hra⟩ := hC.1.tray hI hta
      obtain ⟨tkb, nab, tab, hqb, -, hrb⟩ := hC.1.tray hI htb
      have hka : sH S ta < 14 := by have := (hI.2.2.2.2.2.2.1 ta hta).1; omega
      have hkb : sH S tb < 14 := by have := (hI.2.2.2.2.2.2.1 tb htb).1; omega
      have hza := zT_le hI hta
      have hzb := zT_le hI htb
      have hm0 : sp_match S a1 p1 b1 q1 n1 = mat1 S ta p1 tb q1 n1 := by unfold sp_match; rw [if_neg (by simp [n_4, n_11]), ea, eb, cN_nI (by omega), cN_nI (by omega)]
      refine lv_aload_n hx hb dX3_match_17 rfl (lv_at hl 0 rfl) ?_
      refine m_get C w hC.1.1 (index := 18) (T := TX3) (N := 7) rfl hi_X3 1 (by decide) (by decide +kernel) rfl dX3_match_18 ?_
      refine lv_iload_n hx hb dX3_match_21 rfl (lv_at hl 1 rfl) ?_
      refine m_topi (y := nI ta) ea ?_
      refine m_hald C w hC.1.2.2.1 ta rfl (by omega) (by omega) dX3_match_22 ?_
      refine lv_astore (lv' := [(6, .ref (tr ta)), (0, .ref h0), (1, .int a1), (2, .int p1), (3, .int b1), (4, .int q1), (5, .int n1)]) hx hb dX3_match_23 hl (by decide) rfl (fun ls hl => ?_)
      refine lv_aload_n hx hb dX3_match_25 rfl (lv_at hl 1 rfl) ?_
      refine m_get C w hC.1.1 (index := 18) (T := TX3) (N := 7) rfl hi_X3 1 (by decide) (by decide +kernel) rfl dX3_match_26 ?_
      refine lv_iload_n hx hb dX3_match_29 rfl (lv_at hl 4 rfl) ?_
      refine m_topi (y := nI tb) eb ?_
      refine m_hald C w hC.1.2.2.1 tb rfl (by omega) (by omega) dX3_match_30 ?_
      refine lv_astore (lv' := [(7, .ref (tr tb)), (6, .ref (tr ta)), (0, .ref h0), (1, .int a1), (2, .int p1), (3, .int b1), (4, .int q1), (5, .int n1)]) hx hb dX3_match_31 hl (by decide) rfl (fun ls hl => ?_)
      refine lv_aload hx hb dX3_match_33 (lv_at hl 1 rfl) ?_
      refine lv_aload hx hb dX3_match_35 (lv_at hl 0 rfl) ?_
      refine m_callS C w hl.1 (As := [.ref (tr ta), .ref (tr tb)]) (rest := []) (c_pair l D y S0 M F (tr ta) (sH S ta) (zT S ta) tka naa taa hqa hka hza (tr tb) (sH S tb) (zT S tb) tkb nab tab hqb hkb hzb) ggX3_match_X3_refusalOfPair rfl (by decide +kernel) (by decide +kernel) (by decide +kernel) (show (_ ≠ _ ∧ _ ≠ _ ∧ _ = some 2) by decide +kernel) ⟨Nat.le_of_ble_eq_true rfl, Nat.le_of_ble_eq_true rfl⟩ rfl (Nat.le_of_ble_eq_true rfl) dX3_match_37 ⟨Nat.le_of_ble_eq_true rfl, Nat.le_of_ble_eq_true rfl⟩ (fun v M1 H locs hq w => ?_)
      obtain ⟨rfl, hM1⟩ := hq
      rw [hM1] at w
      clear hM1 M1
      refine W.eq (g2 := F0 m 40 ls [.int (unlK (sH S ta) (sH S tb))]) rfl ?_
      refine lv_istore (lv' := [(8, .int (unlK (sH S ta) (sH S tb))), (7, .ref (tr tb)), (6, .ref (tr ta)), (0, .ref h0), (1, .int a1), (2, .int p1), (3, .int b1), (4, .int q1), (5, .int n1)]) hx hb dX3_match_40 hl (by decide) rfl (fun ls hl => ?_)
      refine lv_iload hx hb dX3_match_42 (lv_at hl 0 rfl) ?_
      refine lv_if_eq (tgt := 50) hx hb dX3_match_44 (by decide) (fun c_44 => ?_) (fun c_44 => ?_)
      · skip
        refine lv_iload hx hb dX3_match_50 (lv_at hl 8 rfl) ?_
        refine lv_if_lt (tgt := 83) hx hb dX3_match_52 (by decide) (fun c_52 => ?_) (fun c_52 => ?_)
        · skip
          refine lv_bipush (v := (-4)) hx hb dX3_match_83 (by decide) ?_
          exact m_iret C w dX3_match_85 (by omega) (by omega) (⟨by
            rw [hm0]
            unfold mat1
            rw [if_neg (show ¬ ¬ unl S ta tb = 0 from fun h => h c_44), if_pos ?_]
            unfold inP
            rw [show decide (nI (zT S ta + 1) ≤ p1) = decide (nI (zT S ta) < p1) from decide_eq_decide.mpr (lt_s1 (by omega)).symm, show decide (nI (zT S tb + 1) ≤ q1) = decide (nI (zT S tb) < q1) from decide_eq_decide.mpr (lt_s1 (by omega)).symm]
            first | (have c9 := Int32.not_le.mp c_80; simp [c9]) | simp [c_70] | simp [c_65] | simp [c_56] | simp [c_52], rfl⟩)
        · skip
          refine lv_iload_n hx hb dX3_match_55 rfl (lv_at hl 5 rfl) ?_
          refine lv_if_lt (tgt := 83) hx hb dX3_match_56 (by decide) (fun c_56 => ?_) (fun c_56 => ?_)
          · skip
            refine lv_bipush (v := (-4)) hx hb dX3_match_83 (by decide) ?_
            exact m_iret C w dX3_match_85 (by omega) (by omega) (⟨by
              rw [hm0]
              unfold mat1
              rw [if_neg (show ¬ ¬ unl S ta tb = 0 from fun h => h c_44), if_pos ?_]
              unfold inP
              rw [show decide (nI (zT S ta + 1) ≤ p1) = decide (nI (zT S ta) < p1) from decide_eq_decide.mpr (lt_s1 (by omega)).symm, show decide (nI (zT S tb + 1) ≤ q1) = decide (nI (zT S tb) < q1) from decide_eq_decide.mpr (lt_s1 (by omega)).symm]
              first | (have c9 := Int32.not_le.mp c_80; simp [c9]) | simp [c_70] | simp [c_65] | simp [c_56] | simp [c_52], rfl⟩)
          · skip
            refine lv_iload_n hx hb dX3_match_59 rfl (lv_at hl 5 rfl) ?_
            refine lv_aload hx hb dX3_match_60 (lv_at hl 2 rfl) ?_
            refine m_getN C w hqa (index := 89) (host := "BeadBench") (T := TX0) (N := 5) rfl hi_X0 1 (by decide) (by decide +kernel) rfl dX3_match_62 ?_
            refine lv_icmp_gt (tgt := 83) hx hb dX3_match_65 (by decide) (fun c_65 => ?_) (fun c_65 => ?_)
            · skip
              refine lv_bipush (v := (-4)) hx hb dX3_match_83 (by decide) ?_
              exact m_iret C w dX3_match_85 (by omega) (by omega) (⟨by
                rw [hm0]
                unfold mat1
                rw [if_neg (show ¬ ¬ unl S ta tb = 0 from fun h => h c_44), if_pos ?_]
                unfold inP
                rw [show decide (nI (zT S ta + 1) ≤ p1) = decide (nI (zT S ta) < p1) from decide_eq_decide.mpr (lt_s1 (by omega)).symm, show decide (nI (zT S tb + 1) ≤ q1) = decide (nI (zT S tb) < q1) from decide_eq_decide.mpr (lt_s1 (by omega)).symm]
                first | (have c9 := Int32.not_le.mp c_80; simp [c9]) | simp [c_70] | simp [c_65] | simp [c_56] | simp [c_52], rfl⟩)
            · skip
              refine lv_iload hx hb dX3_match_68 (lv_at hl 7 rfl) ?_
              refine lv_if_lt (tgt := 83) hx hb dX3_match_70 (by decide) (fun c_70 => ?_) (fun c_70 => ?_)
              · skip
                refine lv_bipush (v := (-4)) hx hb dX3_match_83 (by decide) ?_
                exact m_iret C w dX3_match_85 (by omega) (by omega) (⟨by
                  rw [hm0]
                  unfold mat1
                  rw [if_neg (show ¬ ¬ unl S ta tb = 0 from fun h => h c_44), if_pos ?_]
                  unfold inP
                  rw [show decide (nI (zT S ta + 1) ≤ p1) = decide (nI (zT S ta) < p1) from decide_eq_decide.mpr (lt_s1 (by omega)).symm, show decide (nI (zT S tb + 1) ≤ q1) = decide (nI (zT S tb) < q1) from decide_eq_decide.mpr (lt_s1 (by omega)).symm]
                  first | (have c9 := Int32.not_le.mp c_80; simp [c9]) | simp [c_70] | simp [c_65] | simp [c_56] | simp [c_52], rfl⟩)
              · skip
                refine lv_iload hx hb dX3_match_73 (lv_at hl 7 rfl) ?_
                refine lv_aload hx hb dX3_match_75 (lv_at hl 1 rfl) ?_
                refine m_getN C w hqb (index := 89) (host := "BeadBench") (T := TX0) (N := 5) rfl hi_X0 1 (by decide) (by decide +kernel) rfl dX3_match_77 ?_
                refine lv_icmp_le (tgt := 86) hx hb dX3_match_80 (by decide) (fun c_80 => ?_) (fun c_80 => ?_)
                · skip
                  obtain ⟨h2a, h2b, hcm⟩ := unlK_0 c_44
                  obtain ⟨hra1, -, eka, -, enaa, etaa⟩ := hra h2a
                  obtain ⟨hrb1, -, ekb, -, enab, etab⟩ := hrb h2b
                  have hzA : zT S ta = sZ S (rowT S ta) := by unfold zT; rw [if_pos h2a]
                  have hzB : zT S tb = sZ S (rowT S tb) := by unfold zT; rw [if_pos h2b]
                  obtain ⟨pp, hpl, ep⟩ := nI_of2 (M := nI (zT S ta)) (n := zT S ta) (nI_toInt (by omega)) c_56 (Int32.not_lt.mp c_65)
                  obtain ⟨qq, hql, eq⟩ := nI_of2 (M := nI (zT S tb)) (n := zT S tb) (nI_toInt (by omega)) c_70 c_80
                  obtain ⟨nn, hnl, en⟩ := nI_of c_52
                  have hnA : M naa = some (eL y (zT S ta) (f (rowT S ta + 1))) := by rw [enaa, hzA]; exact hC.2.1.1 _ hra1
                  have htA : M taa = some (eT y (zT S ta) (g (rowT S ta + 1))) := by rw [etaa, hzA]; exact hC.2.1.2.1 _ hra1
                  have hnB : M nab = some (eL y (zT S tb) (f (rowT S tb + 1))) := by rw [enab, hzB]; exact hC.2.1.1 _ hrb1
                  have htB : M tab = some (eT y (zT S tb) (g (rowT S tb + 1))) := by rw [etab, hzB]; exact hC.2.1.2.1 _ hrb1
                  have hal : ∀ i, pp + i < zT S ta → qq + i < zT S tb → (decide (f (rowT S ta + 1) (pp + i) = f (rowT S tb + 1) (qq + i)) && decide (g (rowT S ta + 1) (pp + i) = g (rowT S tb + 1) (qq + i))) = decide (sC S (rowT S ta) (pp + i) = sC S (rowT S tb) (qq + i)) := by
                    intro i h1 h2
                    have q1 := hR.1 (rowT S ta) (pp + i) hra1 (by omega)
                    have q2 := hR.1 (rowT S tb) (qq + i) hrb1 (by omega)
                    rw [q1.1, q1.2, q2.1, q2.2, ← Bool.decide_and]
                    exact decide_eq_decide.mpr (th_inj hI hC (by omega) (by omega) (by rw [eka, ekb]; exact hcm) ((hI.2.2.2.1 _ hra1).2.2.2 _ (by omega)) ((hI.2.2.2.1 _ hrb1).2.2.2 _ (by omega)))
                  have hm : sp_match S a1 p1 b1 q1 n1 = nI (ld (fun j => decide (sC S (rowT S ta) (pp + j) = sC S (rowT S tb) (qq + j))) (min nn (min (zT S ta - pp) (zT S tb - qq)))) := by
                    rw [hm0]
                    unfold mat1
                    rw [if_neg (show ¬ ¬ unl S ta tb = 0 from fun h => h c_44), if_neg (by rw [ep, eq, en]; simp [inP_nI (show pp < zT S ta + 1 by omega) (by omega), inP_nI (show qq < zT S tb + 1 by omega) (by omega), nI_pos hnl]), ep, eq, en, cN_nI (by omega), cN_nI (by omega), cN_nI hnl]
                  refine lv_iload hx hb dX3_match_86 (lv_at hl 8 rfl) ?_
                  refine m_topi (y := nI nn) en ?_
                  refine lv_aload hx hb dX3_match_88 (lv_at hl 2 rfl) ?_
                  refine m_getN C w hqa (index := 89) (host := "BeadBench") (T := TX0) (N := 5) rfl hi_X0 1 (by decide) (by decide +kernel) rfl dX3_match_90 ?_
                  refine lv_iload_n hx hb dX3_match_93 rfl (lv_at hl 5 rfl) ?_
                  refine m_topi (y := nI pp) ep ?_
                  refine lv_isub hx hb dX3_match_94 ?_
                  refine m_topi (y := nI (zT S ta - pp)) (pk_sub (by omega)) ?_
                  refine lv_aload hx hb dX3_match_95 (lv_at hl 1 rfl) ?_
                  refine m_getN C w hqb (index := 89) (host := "BeadBench") (T := TX0) (N := 5) rfl hi_X0 1 (by decide) (by decide +kernel) rfl dX3_match_97 ?_
                  refine lv_iload hx hb dX3_match_100 (lv_at hl 7 rfl) ?_
                  refine m_topi (y := nI qq) eq ?_
                  refine lv_isub hx hb dX3_match_102 ?_
                  refine m_topi (y := nI (zT S tb - qq)) (pk_sub (by omega)) ?_
                  refine va_mmin hx hb (by rw [C.2.2.1]; exact hl.1.symm) C.2.2.2.1 (C.2.2.2.2.1 _ (by decide +kernel)) (C.2.2.2.2.1 _ (by decide +kernel)) (C.2.2.2.2.1 _ (by decide +kernel)) (C.2.2.2.2.1 _ (List.mem_of_getElem? (i := 5) rfl)) (Nat.le_of_ble_eq_true rfl) (Nat.le_of_ble_eq_true rfl) (Nat.le_of_ble_eq_true rfl) (Nat.le_of_ble_eq_true rfl) dX3_match_103 ?_
                  refine m_topi (y := nI (min (zT S ta - pp) (zT S tb - qq))) (nI_min (by omega) (by omega)) ?_
                  refine va_mmin hx hb (by rw [C.2.2.1]; exact hl.1.symm) C.2.2.2.1 (C.2.2.2.2.1 _ (by decide +kernel)) (C.2.2.2.2.1 _ (by decide +kernel)) (C.2.2.2.2.1 _ (by decide +kernel)) (C.2.2.2.2.1 _ (List.mem_of_getElem? (i := 5) rfl)) (Nat.le_of_ble_eq_true rfl) (Nat.le_of_ble_eq_true rfl) (Nat.le_of_ble_eq_true rfl) (Nat.le_of_ble_eq_true rfl) dX3_match_106 ?_
                  refine m_topi (y := nI (min nn (min (zT S ta - pp) (zT S tb - qq)))) (nI_min (by omega) (by omega)) ?_
                  refine lv_istore (lv' := [(9, .int (nI (min nn (min (zT S ta - pp) (zT S tb - qq))))), (8, .int (unlK (sH S ta) (sH S tb))), (7, .ref (tr tb)), (6, .ref (tr ta)), (0, .ref h0), (1, .int a1), (2, .int p1), (3, .int b1), (4, .int q1), (5, .int n1)]) hx hb dX3_match_109 hl (by decide) rfl (fun ls hl => ?_)
                  refine lv_iconst (v := 0) hx hb dX3_match_111 (by decide) ?_
                  refine lv_istore (lv' := [(10, .int 0), (9, .int (nI (min nn (min (zT S ta - pp) (zT S tb - qq))))), (8, .int (unlK (sH S ta) (sH S tb))), (7, .ref (tr tb)), (6, .ref (tr ta)), (0, .ref h0), (1, .int a1), (2, .int p1), (3, .int b1), (4, .int q1), (5, .int n1)]) hx hb dX3_match_112 hl (by decide) rfl (fun ls hl => ?_)
                  have lp : ∀ (kf : Nat) (i : Nat), (i ≤ min nn (min (zT S ta - pp) (zT S tb - qq))) → (∀ x, x < i → decide (sC S (rowT S ta) (pp + x) = sC S (rowT S tb) (qq + x)) = true) →  ∀ (H : Heap) (locs : List Loc) (ls : Array Slot), min nn (min (zT S ta - pp) (zT S tb - qq)) - i = kf → mS D S0 M F s H locs → lv_has ls 11 [(10, .int (nI i)), (9, .int (nI (min nn (min (zT S ta - pp) (zT S tb - qq))))), (6, .ref (tr ta)), (7, .ref (tr tb)), (2, .int p1), (4, .int q1), (0, .ref h0)] → W p l e { frames := 2, cells := 0, slots := 0, locals := 42 } s m ([.ref h0, .int a1, .int p1, .int b1, .int q1, .int n1] : List Value).toArray below meth c H locs 0 0 (MQ below (mQ D S0 F (fun v M' => v = some (.int (sp_match S a1 p1 b1 q1 n1)) ∧ M' = M)) ([.ref h0, .int a1, .int p1, .int b1, .int q1, .int n1] : List Value).toArray s 0 0 (fun q => S0 ≤ q)) (F0 m 114 ls []) := by
                    clear w hl
                    intro kf
                    induction kf using Nat.strongRecOn with
                    | _ kf ih_lp =>
                      intro i hi hK H locs ls hkf w hl
                      refine lv_iload hx hb dX3_match_114 (lv_at hl 0 rfl) ?_
                      refine lv_iload hx hb dX3_match_116 (lv_at hl 1 rfl) ?_
                      refine lv_icmp_ge (tgt := 146) hx hb dX3_match_118 (by decide) (fun c_118 => ?_) (fun c_118 => ?_)
                      · skip
                        have n_118 : (min nn (min (zT S ta - pp) (zT S tb - qq))) ≤ i := (nI_leI (by omega) (by omega)).mp c_118
                        refine lv_iload hx hb dX3_match_146 (lv_at hl 0 rfl) ?_
                        exact m_iret C w dX3_match_148 (by omega) (by omega) (⟨by rw [hm]; exact congrArg (fun z => some (Value.int (nI z))) (ld_eq (by omega) hK (by first | exact Or.inl (by omega) | exact Or.inr (by rw [← hal i (by omega) (by omega)]; exact n_137))).symm, rfl⟩)
                      · skip
                        have n_118 : ¬ (min nn (min (zT S ta - pp) (zT S tb - qq))) ≤ i := fun h => absurd ((nI_leI (by omega) (by omega)).mpr h) c_118
                        refine lv_aload hx hb dX3_match_121 (lv_at hl 2 rfl) ?_
                        refine lv_iload_n hx hb dX3_match_123 rfl (lv_at hl 4 rfl) ?_
                        refine m_topi (y := nI pp) ep ?_
                        refine lv_iload hx hb dX3_match_124 (lv_at hl 0 rfl) ?_
                        refine lv_iadd hx hb dX3_match_126 ?_
                        refine m_topi (y := nI (pp + i)) (by first | exact nI_add _ _ | exact nI_1 _) ?_
                        refine lv_aload hx hb dX3_match_127 (lv_at hl 3 rfl) ?_
                        refine lv_iload hx hb dX3_match_129 (lv_at hl 5 rfl) ?_
                        refine m_topi (y := nI qq) eq ?_
                        refine lv_iload hx hb dX3_match_131 (lv_at hl 0 rfl) ?_
                        refine lv_iadd hx hb dX3_match_133 ?_
                        refine m_topi (y := nI (qq + i)) (by first | exact nI_add _ _ | exact nI_1 _) ?_
                        refine m_callV C w hl.1 (As := [.int (nI (pp + i)), .ref (tr tb), .int (nI (qq + i))]) (rest := []) (c_Hold_alike l D y S0 M F (tr ta) (sH S ta) (zT S ta) tka naa taa hqa (tr tb) (sH S tb) (zT S tb) tkb nab tab hqb (f (rowT S ta + 1)) (f (rowT S tb + 1)) (g (rowT S ta + 1)) (g (rowT S tb + 1)) hnA htA hnB htB (pp + i) (qq + i) (by omega) (by omega) hza hzb) gX3_match_X0_isAlike rfl hqa (T := TX0) (N := 5) rfl (show (_ = _ ∧ _ ≠ _ ∧ _ ≠ _ ∧ _ = some 3) by decide +kernel) ⟨Nat.le_of_ble_eq_true rfl, Nat.le_of_ble_eq_true rfl⟩ rfl (Nat.le_of_ble_eq_true rfl) dX3_match_134 ⟨Nat.le_of_ble_eq_true rfl, Nat.le_of_ble_eq_true rfl⟩ (fun v M1 H locs hq w => ?_)
                        obtain ⟨rfl, hM1⟩ := hq
                        rw [hM1] at w
                        clear hM1 M1
                        refine W.eq (g2 := F0 m 137 ls [.int (bI (decide (f (rowT S ta + 1) (pp + i) = f (rowT S tb + 1) (qq + i)) && decide (g (rowT S ta + 1) (pp + i) = g (rowT S tb + 1) (qq + i))))]) rfl ?_
                        refine lv_if_eq (tgt := 146) hx hb dX3_match_137 (by decide) (fun c_137 => ?_) (fun c_137 => ?_)
                        · skip
                          have n_137 : (decide (f (rowT S ta + 1) (pp + i) = f (rowT S tb + 1) (qq + i)) && decide (g (rowT S ta + 1) (pp + i) = g (rowT S tb + 1) (qq + i))) = false := bI_f c_137
                          refine lv_iload hx hb dX3_match_146 (lv_at hl 0 rfl) ?_
                          exact m_iret C w dX3_match_148 (by omega) (by omega) (⟨by rw [hm]; exact congrArg (fun z => some (Value.int (nI z))) (ld_eq (by omega) hK (by first | exact Or.inl (by omega) | exact Or.inr (by rw [← hal i (by omega) (by omega)]; exact n_137))).symm, rfl⟩)
                        · skip
                          have n_137 : (decide (f (rowT S ta + 1) (pp + i) = f (rowT S tb + 1) (qq + i)) && decide (g (rowT S ta + 1) (pp + i) = g (rowT S tb + 1) (qq + i))) = true := bI_t c_137
                          refine lv_iinc (v := nI (i + 1)) (lv' := [(10, .int (nI (i + 1))), (9, .int (nI (min nn (min (zT S ta - pp) (zT S tb - qq))))), (6, .ref (tr ta)), (7, .ref (tr tb)), (2, .int p1), (4, .int q1), (0, .ref h0)]) hx hb dX3_match_140 hl (k := 0) rfl (by first | exact nI_1 _ | exact nI_add _ _ | rfl) (by decide) rfl (fun ls hl => ?_)
                          refine lv_goto (tgt := 114) hx hb dX3_match_143 (by decide) ?_
                          exact ih_lp (min nn (min (zT S ta - pp) (zT S tb - qq)) - (i + 1)) (by omega) (i + 1) (by omega) (fun x hx => by
                              by_cases e : x = i
                              · rw [e, ← hal i (by omega) (by omega)]; exact n_137
                              · exact hK x (by omega)) _ _ ls rfl w (lv_sub hl [0, 1, 2, 3, 4, 5, 6] rfl)
                  exact lp _ 0 (Nat.zero_le _) (fun x hx => by omega) _ _ ls rfl w (lv_sub hl [0, 1, 4, 3, 7, 9, 5] rfl)
                · skip
                  refine lv_bipush (v := (-4)) hx hb dX3_match_83 (by decide) ?_
                  exact m_iret C w dX3_match_85 (by omega) (by omega) (⟨by
                    rw [hm0]
                    unfold mat1
                    rw [if_neg (show ¬ ¬ unl S ta tb = 0 from fun h => h c_44), if_pos ?_]
                    unfold inP
                    rw [show decide (nI (zT S ta + 1) ≤ p1) = decide (nI (zT S ta) < p1) from decide_eq_decide.mpr (lt_s1 (by omega)).symm, show decide (nI (zT S tb + 1) ≤ q1) = decide (nI (zT S tb) < q1) from decide_eq_decide.mpr (lt_s1 (by omega)).symm]
                    first | (have c9 := Int32.not_le.mp c_80; simp [c9]) | simp [c_70] | simp [c_65] | simp [c_56] | simp [c_52], rfl⟩)
      · skip
        refine lv_iload hx hb dX3_match_47 (lv_at hl 0 rfl) ?_
        exact m_iret C w dX3_match_49 (by omega) (by omega) (⟨by rw [hm0]; unfold mat1; rw [if_pos (show ¬ unl S ta tb = 0 from c_44)]; rfl, rfl⟩)
    · skip
      have n_11 : (inP b1 12) = false := bI_f c_11
      refine lv_bipush (v := (-6)) hx hb dX3_match_14 (by decide) ?_
      exact m_iret C w dX3_match_16 (by omega) (by omega) (⟨by unfold sp_match; rw [if_pos (by first | simp [n_4, n_11] | simp [n_4])], rfl⟩)
