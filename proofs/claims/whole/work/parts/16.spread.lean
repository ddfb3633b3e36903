set_option maxRecDepth 100000 in
set_option maxHeartbeats 4000000 in
theorem c_spread (l : Launch) (D : va_G) (y : mY) (S0 : Nat) (M F : mp) (h0 : Nat) (A : Ad) (tr : Nat → Nat) (f : Nat → Nat → Int64) (g : Nat → Nat → Option Nat) (S : St) (hC : CW y h0 A tr f g S M) (c0 : Nat) (hI : Inv c0 S) (hR : CR A f g S) (t1 n1 : Int32) : ct l yX3_spread wsX3_spread 2 45 0 0 D y S0 M F [.ref h0, .int t1, .int n1] (fun v M' => v = some (.int (sp_spread S t1 n1).1) ∧ RC y h0 (sp_spread S t1 n1).2 M') := by
  refine ct_of cX3_spread 6 (some .int) [(0, .ref h0), (1, .int t1), (2, .int n1)] (by decide +kernel) rfl (Nat.le_of_ble_eq_true rfl) rfl ?_
  intro p e s m below meth c ls C hnm hl w
  have hx := C.1
  have hb := C.2.1
  have hi_X0 : ∀ w ∈ u_ws RX0 TX0 5, w ∈ wsX3_spread := by decide +kernel
  have hi_X3 : ∀ w ∈ u_ws RX3 TX3 7, w ∈ wsX3_spread := by decide +kernel
  refine lv_iload_n hx hb dX3_spread_0 rfl (lv_at hl 1 rfl) ?_
  refine m_callS C w hl.1 (As := [.int t1]) (rest := []) (c_isTray l D y S0 M F t1) ggX3_spread_X3_isTray rfl (by decide +kernel) (by decide +kernel) (by decide +kernel) (show (_ ≠ _ ∧ _ ≠ _ ∧ _ = some 1) by decide +kernel) ⟨Nat.le_of_ble_eq_true rfl, Nat.le_of_ble_eq_true rfl⟩ rfl (Nat.le_of_ble_eq_true rfl) dX3_spread_1 ⟨Nat.le_of_ble_eq_true rfl, Nat.le_of_ble_eq_true rfl⟩ (fun v M1 H locs hq w => ?_)
  obtain ⟨rfl, hM1⟩ := hq
  rw [hM1] at w
  clear hM1 M1
  refine W.eq (g2 := F0 m 4 ls [.int (bI (inP t1 12))]) rfl ?_
  refine lv_if_ne (tgt := 10) hx hb dX3_spread_4 (by decide) (fun c_4 => ?_) (fun c_4 => ?_)
  · skip
    have n_4 : (inP t1 12) = true := bI_t c_4
    obtain ⟨t, ht, et⟩ := inP_t (by decide) n_4
    have hm0 : sp_spread S t1 n1 = spr1 S t n1 := by unfold sp_spread; rw [if_neg (by simp [n_4]), et, cN_nI (by omega)]
    refine lv_aload_n hx hb dX3_spread_10 rfl (lv_at hl 0 rfl) ?_
    refine m_get C w hC.1.1 (index := 18) (T := TX3) (N := 7) rfl hi_X3 1 (by decide) (by decide +kernel) rfl dX3_spread_11 ?_
    refine lv_iload_n hx hb dX3_spread_14 rfl (lv_at hl 1 rfl) ?_
    refine m_topi (y := nI t) et ?_
    refine m_hald C w hC.1.2.2.1 t rfl (by omega) (by omega) dX3_spread_15 ?_
    refine lv_astore_n (lv' := [(3, .ref (tr t)), (0, .ref h0), (1, .int t1), (2, .int n1)]) hx hb dX3_spread_16 rfl hl (by decide) rfl (fun ls hl => ?_)
    refine lv_aload_n hx hb dX3_spread_17 rfl (lv_at hl 1 rfl) ?_
    refine lv_aload_n hx hb dX3_spread_18 rfl (lv_at hl 0 rfl) ?_
    refine m_callV C w hl.1 (As := [.ref (tr t)]) (rest := []) (c_keep l D y S0 M F h0 A tr f g S hC c0 hI hR t ht) gX3_spread_X3_keep rfl hC.1.1 (T := TX3) (N := 7) rfl (show (_ = _ ∧ _ ≠ _ ∧ _ ≠ _ ∧ _ = some 1) by decide +kernel) ⟨Nat.le_of_ble_eq_true rfl, Nat.le_of_ble_eq_true rfl⟩ rfl (Nat.le_of_ble_eq_true rfl) dX3_spread_19 ⟨Nat.le_of_ble_eq_true rfl, Nat.le_of_ble_eq_true rfl⟩ (fun v M1 H locs hq w => ?_)
    obtain ⟨rfl, f1, g1, hC1, hR1⟩ := hq
    have hI1 := inv_kep hI ht
    refine W.eq (g2 := F0 m 22 ls []) rfl ?_
    have hz := zT_le hI ht
    have hk : sH S t < 14 := by have := (hI.2.2.2.2.2.2.1 t ht).1; omega
    by_cases h2 : 2 ≤ sH S t
    · skip
      rw [kep_row h2] at hC1 hR1 hI1
      obtain ⟨tk, na, ta, hq1, -, hrow⟩ := hC1.1.tray hI1 ht
      have hq1 : M1 (tr t) = some (eO 0 (hF (sH S t) (zT S t) tk na ta)) := hq1
      obtain ⟨hr, -, ekd, etr, -, -⟩ := hrow h2
      have hr : rowT S t < sN S := hr
      have ekd : sK S (rowT S t) = sH S t := ekd
      have etr : tr t = xr A (rowT S t) := etr
      have hzT : zT S t = sZ S (rowT S t) := by unfold zT; rw [if_pos h2]
      refine lv_aload_n hx hb dX3_spread_22 rfl (lv_at hl 0 rfl) ?_
      refine m_callV C w hl.1 (As := []) (rest := []) (c_Hold_refusal l D y S0 M1 F (tr t) (sH S t) (zT S t) tk na ta hq1 hk hz) gX3_spread_X0_refusal rfl hq1 (T := TX0) (N := 5) rfl (show (_ = _ ∧ _ ≠ _ ∧ _ ≠ _ ∧ _ = some 0) by decide +kernel) ⟨Nat.le_of_ble_eq_true rfl, Nat.le_of_ble_eq_true rfl⟩ rfl (Nat.le_of_ble_eq_true rfl) dX3_spread_23 ⟨Nat.le_of_ble_eq_true rfl, Nat.le_of_ble_eq_true rfl⟩ (fun v M1 H locs hq w => ?_)
      obtain ⟨rfl, hM1⟩ := hq
      rw [hM1] at w
      clear hM1 M1
      refine W.eq (g2 := F0 m 26 ls [.int (fR (sH S t))]) rfl ?_
      refine lv_istore (lv' := [(4, .int (fR (sH S t))), (3, .ref (tr t)), (0, .ref h0), (1, .int t1), (2, .int n1)]) hx hb dX3_spread_26 hl (by decide) rfl (fun ls hl => ?_)
      refine lv_iload hx hb dX3_spread_28 (lv_at hl 0 rfl) ?_
      refine lv_if_eq (tgt := 40) hx hb dX3_spread_30 (by decide) (fun c_30 => ?_) (fun c_30 => ?_)
      · skip
        refine lv_iload_n hx hb dX3_spread_40 rfl (lv_at hl 4 rfl) ?_
        refine lv_iconst (v := 1) hx hb dX3_spread_41 (by decide) ?_
        refine lv_icmp_lt (tgt := 53) hx hb dX3_spread_42 (by decide) (fun c_42 => ?_) (fun c_42 => ?_)
        · skip
          refine lv_aload_n hx hb dX3_spread_53 rfl (lv_at hl 2 rfl) ?_
          refine lv_bipush (v := (-4)) hx hb dX3_spread_54 (by decide) ?_
          refine m_callV C w hl.1 (As := [.int (-4)]) (rest := []) (c_counted l D y S0 M1 F h0 A tr f1 g1 (wBf S (some (rowT S t)) (sC S (rowT S t))) hC1 (-4) (fun _ => ⟨4, by decide, by decide⟩)) gX3_spread_X3_counted rfl hC1.1.1 (T := TX3) (N := 7) rfl (show (_ = _ ∧ _ ≠ _ ∧ _ ≠ _ ∧ _ = some 1) by decide +kernel) ⟨Nat.le_of_ble_eq_true rfl, Nat.le_of_ble_eq_true rfl⟩ rfl (Nat.le_of_ble_eq_true rfl) dX3_spread_56 ⟨Nat.le_of_ble_eq_true rfl, Nat.le_of_ble_eq_true rfl⟩ (fun v M1 H locs hq w => ?_)
          obtain ⟨rfl, hC9⟩ := hq
          refine W.eq (g2 := F0 m 59 ls [.int (-4)]) rfl ?_
          exact m_iret C w dX3_spread_59 (by omega) (by omega) (⟨by rw [hm0]; unfold spr1; rw [if_neg (by omega), if_pos (by first | (have c9 := Int32.not_le.mp c_50; simp [c9]) | simp [c_42])], by rw [hm0]; unfold spr1; rw [if_neg (by omega), if_pos (by first | (have c9 := Int32.not_le.mp c_50; simp [c9]) | simp [c_42]), kep_row h2]; exact ⟨A, tr, f1, g1, hC9, hR1⟩⟩)
        · skip
          refine lv_iload_n hx hb dX3_spread_45 rfl (lv_at hl 4 rfl) ?_
          refine lv_aload_n hx hb dX3_spread_46 rfl (lv_at hl 1 rfl) ?_
          refine m_getN C w hq1 (index := 89) (host := "BeadBench") (T := TX0) (N := 5) rfl hi_X0 1 (by decide) (by decide +kernel) rfl dX3_spread_47 ?_
          refine lv_icmp_le (tgt := 60) hx hb dX3_spread_50 (by decide) (fun c_50 => ?_) (fun c_50 => ?_)
          · skip
            obtain ⟨nn, hnl, en⟩ := nI_of2 (M := nI (zT S t)) (n := zT S t) (nI_toInt (by omega)) (fun h => c_42 (Int32.lt_trans h (by decide))) c_50
            have hn1 : 1 ≤ nn := by
              rcases Nat.eq_zero_or_pos nn with h | h
              · rw [en, h] at c_42; exact absurd (show nI 0 < 1 by decide) c_42
              · exact h
            refine lv_iload_n hx hb dX3_spread_60 rfl (lv_at hl 4 rfl) ?_
            refine m_topi (y := nI nn) en ?_
            refine lv_istore (lv' := [(5, .int (nI nn)), (4, .int (fR (sH S t))), (3, .ref (tr t)), (0, .ref h0), (1, .int t1), (2, .int n1)]) hx hb dX3_spread_61 hl (by decide) rfl (fun ls hl => ?_)
            have lp : ∀ (kf : Nat) (i : Nat) (f2 : Nat → Nat → Int64) (g2 : Nat → Nat → Option Nat) (M2 : mp), (nn ≤ i ∧ i ≤ zT S t) → (CW y h0 A tr f2 g2 (wBf S (some (rowT S t)) (sC S (rowT S t))) M2) → (∀ j, j ≠ rowT S t + 1 → f2 j = f1 j ∧ g2 j = g1 j) → (∀ x, (x < nn → f2 (rowT S t + 1) x = f1 (rowT S t + 1) x ∧ g2 (rowT S t + 1) x = g1 (rowT S t + 1) x) ∧ (nn ≤ x → x < i → f2 (rowT S t + 1) x = f1 0 (x % nn) ∧ g2 (rowT S t + 1) x = g1 0 (x % nn))) →  ∀ (H : Heap) (locs : List Loc) (ls : Array Slot), zT S t - i = kf → mS D S0 M2 F s H locs → lv_has ls 6 [(5, .int (nI i)), (2, .int n1), (3, .ref (tr t)), (0, .ref h0)] → W p l e { frames := 2, cells := 0, slots := 0, locals := 45 } s m ([.ref h0, .int t1, .int n1] : List Value).toArray below meth c H locs 0 0 (MQ below (mQ D S0 F (fun v M' => v = some (.int (sp_spread S t1 n1).1) ∧ RC y h0 (sp_spread S t1 n1).2 M')) ([.ref h0, .int t1, .int n1] : List Value).toArray s 0 0 (fun q => S0 ≤ q)) (F0 m 63 ls []) := by
              clear w hl
              intro kf
              induction kf using Nat.strongRecOn with
              | _ kf ih_lp =>
                intro i f2 g2 M2 hi hC2 hf hd H locs ls hkf w hl
                have hq2 : M2 (tr t) = some (eO 0 (hF (sH S t) (zT S t) 0 (xn A (rowT S t + 1)) (xt A (rowT S t + 1)))) := by rw [etr, hzT, ← ekd]; exact hC2.1.2.2.2.2.2.1 (rowT S t) hr
                have hn2 : M2 (xn A (rowT S t + 1)) = some (eL y (zT S t) (f2 (rowT S t + 1))) := by rw [hzT]; exact hC2.2.1.1 (rowT S t + 1) hr
                have ht2 : M2 (xt A (rowT S t + 1)) = some (eT y (zT S t) (g2 (rowT S t + 1))) := by rw [hzT]; exact hC2.2.1.2.1 (rowT S t + 1) hr
                refine lv_iload hx hb dX3_spread_63 (lv_at hl 0 rfl) ?_
                refine lv_aload_n hx hb dX3_spread_65 rfl (lv_at hl 2 rfl) ?_
                refine m_getN C w hq2 (index := 89) (host := "BeadBench") (T := TX0) (N := 5) rfl hi_X0 1 (by decide) (by decide +kernel) rfl dX3_spread_66 ?_
                refine lv_icmp_ge (tgt := 92) hx hb dX3_spread_69 (by decide) (fun c_69 => ?_) (fun c_69 => ?_)
                · skip
                  have n_69 : (zT S t) ≤ i := (nI_leI (by omega) (by omega)).mp c_69
                  refine lv_aload_n hx hb dX3_spread_92 rfl (lv_at hl 3 rfl) ?_
                  refine lv_aload_n hx hb dX3_spread_93 rfl (lv_at hl 2 rfl) ?_
                  refine m_getN C w hq2 (index := 89) (host := "BeadBench") (T := TX0) (N := 5) rfl hi_X0 1 (by decide) (by decide +kernel) rfl dX3_spread_94 ?_
                  refine m_callV C w hl.1 (As := [.int (nI (zT S t))]) (rest := []) (c_counted l D y S0 M2 F h0 A tr f2 g2 (wRC (wBf S (some (rowT S t)) (sC S (rowT S t))) (va_up (sC S) (rowT S t) (fun i => sC S (rowT S t) (if i < nn then i else i % nn)))) (hC2.rc _) (nI (zT S t)) (nI_ok (by omega))) gX3_spread_X3_counted rfl hC2.1.1 (T := TX3) (N := 7) rfl (show (_ = _ ∧ _ ≠ _ ∧ _ ≠ _ ∧ _ = some 1) by decide +kernel) ⟨Nat.le_of_ble_eq_true rfl, Nat.le_of_ble_eq_true rfl⟩ rfl (Nat.le_of_ble_eq_true rfl) dX3_spread_97 ⟨Nat.le_of_ble_eq_true rfl, Nat.le_of_ble_eq_true rfl⟩ (fun v M1 H locs hq w => ?_)
                  obtain ⟨rfl, hC9⟩ := hq
                  refine W.eq (g2 := F0 m 100 ls [.int (nI (zT S t))]) rfl ?_
                  exact m_iret C w dX3_spread_100 (by omega) (by omega) (⟨by rw [hm0]; unfold spr1; rw [if_neg (by omega), if_neg (by have c9 := Int32.not_lt.mpr c_50; simp [c_42, c9])], by
                    rw [hm0]
                    unfold spr1
                    rw [if_neg (by omega), if_neg (by have c9 := Int32.not_lt.mpr c_50; simp [c_42, c9]), kep_row h2, en, cN_nI (by omega)]
                    exact ⟨A, tr, f2, g2, hC9, ⟨fun r x hr2 hx => by
                      have hx : x < sZ S r := hx
                      show f2 (r + 1) x = nu (sK S r) ((va_up (sC S) (rowT S t) (fun i => sC S (rowT S t) (if i < nn then i else i % nn))) r x) ∧ g2 (r + 1) x = th A (sK S r) ((va_up (sC S) (rowT S t) (fun i => sC S (rowT S t) (if i < nn then i else i % nn))) r x)
                      by_cases e : r = rowT S t
                      · subst e
                        rw [show (va_up (sC S) (rowT S t) (fun i => sC S (rowT S t) (if i < nn then i else i % nn))) (rowT S t) x = sC S (rowT S t) (if x < nn then x else x % nn) by simp [va_up]]
                        by_cases h9 : x < nn
                        · rw [if_pos h9, ((hd x).1 h9).1, ((hd x).1 h9).2]
                          exact hR1.1 (rowT S t) x hr hx
                        · have hxm := Nat.mod_lt x (show 0 < nn by omega)
                          rw [if_neg h9, ((hd x).2 (by omega) (by omega)).1, ((hd x).2 (by omega) (by omega)).2]
                          exact hR1.2 (rowT S t) (x % nn) rfl (show _ < sZ S (rowT S t) by omega)
                      · rw [show (va_up (sC S) (rowT S t) (fun i => sC S (rowT S t) (if i < nn then i else i % nn))) r = sC S r by simp [va_up, e], (hf _ (fun h => e (Nat.succ.inj h))).1, (hf _ (fun h => e (Nat.succ.inj h))).2]
                        exact hR1.1 r x hr2 hx, fun r x hr2 hx => by
                      rw [(hf 0 (Ne.symm (Nat.succ_ne_zero _))).1, (hf 0 (Ne.symm (Nat.succ_ne_zero _))).2]
                      exact hR1.2 r x hr2 hx⟩⟩⟩)
                · skip
                  have n_69 : ¬ (zT S t) ≤ i := fun h => absurd ((nI_leI (by omega) (by omega)).mpr h) c_69
                  refine lv_aload_n hx hb dX3_spread_72 rfl (lv_at hl 2 rfl) ?_
                  refine lv_iload hx hb dX3_spread_73 (lv_at hl 0 rfl) ?_
                  refine lv_aload_n hx hb dX3_spread_75 rfl (lv_at hl 3 rfl) ?_
                  refine m_get C w hC2.1.1 (index := 22) (T := TX3) (N := 7) rfl hi_X3 2 (by decide) (by decide +kernel) rfl dX3_spread_76 ?_
                  refine lv_iload hx hb dX3_spread_79 (lv_at hl 0 rfl) ?_
                  refine lv_iload_n hx hb dX3_spread_81 rfl (lv_at hl 1 rfl) ?_
                  refine m_topi (y := nI nn) en ?_
                  refine lv_irem hx hb dX3_spread_82 (nI_ne0 (by omega) (by omega)) ?_
                  refine m_topi (y := nI (i % nn)) (pk_rem (by omega) (by omega) (by omega)) ?_
                  have hml := Nat.mod_lt i (show 0 < nn by omega)
                  refine m_callV C w hl.1 (As := [.int (nI i), .ref (xB A), .int (nI (i % nn))]) (rest := []) (c_Hold_copy l D y S0 M2 F (tr t) (sH S t) (zT S t) 0 (xn A (rowT S t + 1)) (xt A (rowT S t + 1)) hq2 (xB A) 0 64 0 (xn A 0) (xt A 0) hC2.1.2.2.2.1 (f2 (rowT S t + 1)) (f2 0) (g2 (rowT S t + 1)) (g2 0) hn2 ht2 (hC2.2.1.1 0 (Nat.zero_le _)) (hC2.2.1.2.1 0 (Nat.zero_le _)) i (i % nn) (by omega) (by omega) (by omega) (by omega) (fun z hz => hC2.1.th (hC2.2.1.2.2 0 (i % nn) z (Nat.zero_le _) (by rw [zz_0]; omega) hz))) gX3_spread_X0_copyPlace rfl hq2 (T := TX0) (N := 5) rfl (show (_ = _ ∧ _ ≠ _ ∧ _ ≠ _ ∧ _ = some 3) by decide +kernel) ⟨Nat.le_of_ble_eq_true rfl, Nat.le_of_ble_eq_true rfl⟩ rfl (Nat.le_of_ble_eq_true rfl) dX3_spread_83 ⟨Nat.le_of_ble_eq_true rfl, Nat.le_of_ble_eq_true rfl⟩ (fun v M1 H locs hq w => ?_)
                  obtain ⟨rfl, hM1⟩ := hq
                  have hC3 := hC2.copy (a := rowT S t + 1) (b := 0) (i := i) (j := i % nn) hr (Nat.zero_le _) (by rw [zz_s]; show i < sZ S (rowT S t); omega) (by rw [zz_0]; omega)
                  rw [show zz (wBf S (some (rowT S t)) (sC S (rowT S t))) (rowT S t + 1) = zT S t from (zz_s _ _).trans hzT.symm, ← hM1] at hC3
                  refine W.eq (g2 := F0 m 86 ls []) rfl ?_
                  refine lv_iinc (v := nI (i + 1)) (lv' := [(5, .int (nI (i + 1))), (2, .int n1), (3, .ref (tr t)), (0, .ref h0)]) hx hb dX3_spread_86 hl (k := 0) rfl (by first | exact nI_1 _ | exact nI_add _ _ | rfl) (by decide) rfl (fun ls hl => ?_)
                  refine lv_goto (tgt := 63) hx hb dX3_spread_89 (by decide) ?_
                  exact ih_lp (zT S t - (i + 1)) (by omega) (i + 1) _ _ M1 ⟨by omega, by omega⟩ hC3 (fun j hj => ⟨(up2_r hj).trans (hf j hj).1, (up2_r hj).trans (hf j hj).2⟩) (fun x => by
                      by_cases e : x = i
                      · rw [e, up2_s, up2_s, (hf 0 (Ne.symm (Nat.succ_ne_zero _))).1, (hf 0 (Ne.symm (Nat.succ_ne_zero _))).2]; exact ⟨fun h => absurd h (by omega), fun _ _ => ⟨rfl, rfl⟩⟩
                      · rw [up2_o (Or.inr e), up2_o (Or.inr e)]; exact ⟨(hd x).1, fun h1 h2 => (hd x).2 h1 (by omega)⟩) _ _ ls rfl w (lv_sub hl [0, 1, 2, 3] rfl)
            exact lp _ nn f1 g1 M1 ⟨Nat.le_refl _, by omega⟩ hC1 (fun _ _ => ⟨rfl, rfl⟩) (fun x => ⟨fun _ => ⟨rfl, rfl⟩, fun h1 h2 => absurd h2 (by omega)⟩) _ _ ls rfl w (lv_sub hl [0, 5, 2, 3] rfl)
          · skip
            refine lv_aload_n hx hb dX3_spread_53 rfl (lv_at hl 2 rfl) ?_
            refine lv_bipush (v := (-4)) hx hb dX3_spread_54 (by decide) ?_
            refine m_callV C w hl.1 (As := [.int (-4)]) (rest := []) (c_counted l D y S0 M1 F h0 A tr f1 g1 (wBf S (some (rowT S t)) (sC S (rowT S t))) hC1 (-4) (fun _ => ⟨4, by decide, by decide⟩)) gX3_spread_X3_counted rfl hC1.1.1 (T := TX3) (N := 7) rfl (show (_ = _ ∧ _ ≠ _ ∧ _ ≠ _ ∧ _ = some 1) by decide +kernel) ⟨Nat.le_of_ble_eq_true rfl, Nat.le_of_ble_eq_true rfl⟩ rfl (Nat.le_of_ble_eq_true rfl) dX3_spread_56 ⟨Nat.le_of_ble_eq_true rfl, Nat.le_of_ble_eq_true rfl⟩ (fun v M1 H locs hq w => ?_)
            obtain ⟨rfl, hC9⟩ := hq
            refine W.eq (g2 := F0 m 59 ls [.int (-4)]) rfl ?_
            exact m_iret C w dX3_spread_59 (by omega) (by omega) (⟨by rw [hm0]; unfold spr1; rw [if_neg (by omega), if_pos (by first | (have c9 := Int32.not_le.mp c_50; simp [c9]) | simp [c_42])], by rw [hm0]; unfold spr1; rw [if_neg (by omega), if_pos (by first | (have c9 := Int32.not_le.mp c_50; simp [c9]) | simp [c_42]), kep_row h2]; exact ⟨A, tr, f1, g1, hC9, hR1⟩⟩)
      · skip
        exact absurd (fR_0.mpr h2) c_30
    · skip
      rw [kep_no h2] at hC1 hR1 hI1
      obtain ⟨tk, na, ta, hq1, -, hrow⟩ := hC1.1.tray hI1 ht
      have hq1 : M1 (tr t) = some (eO 0 (hF (sH S t) (zT S t) tk na ta)) := hq1
      refine lv_aload_n hx hb dX3_spread_22 rfl (lv_at hl 0 rfl) ?_
      refine m_callV C w hl.1 (As := []) (rest := []) (c_Hold_refusal l D y S0 M1 F (tr t) (sH S t) (zT S t) tk na ta hq1 hk hz) gX3_spread_X0_refusal rfl hq1 (T := TX0) (N := 5) rfl (show (_ = _ ∧ _ ≠ _ ∧ _ ≠ _ ∧ _ = some 0) by decide +kernel) ⟨Nat.le_of_ble_eq_true rfl, Nat.le_of_ble_eq_true rfl⟩ rfl (Nat.le_of_ble_eq_true rfl) dX3_spread_23 ⟨Nat.le_of_ble_eq_true rfl, Nat.le_of_ble_eq_true rfl⟩ (fun v M1 H locs hq w => ?_)
      obtain ⟨rfl, hM1⟩ := hq
      rw [hM1] at w
      clear hM1 M1
      refine W.eq (g2 := F0 m 26 ls [.int (fR (sH S t))]) rfl ?_
      refine lv_istore (lv' := [(4, .int (fR (sH S t))), (3, .ref (tr t)), (0, .ref h0), (1, .int t1), (2, .int n1)]) hx hb dX3_spread_26 hl (by decide) rfl (fun ls hl => ?_)
      refine lv_iload hx hb dX3_spread_28 (lv_at hl 0 rfl) ?_
      refine lv_if_eq (tgt := 40) hx hb dX3_spread_30 (by decide) (fun c_30 => ?_) (fun c_30 => ?_)
      · skip
        exact absurd (fR_0.mp c_30) h2
      · skip
        refine lv_aload_n hx hb dX3_spread_33 rfl (lv_at hl 2 rfl) ?_
        refine lv_iload hx hb dX3_spread_34 (lv_at hl 0 rfl) ?_
        refine m_callV C w hl.1 (As := [.int (fR (sH S t))]) (rest := []) (c_counted l D y S0 M1 F h0 A tr f1 g1 (wBf S none (sF S)) hC1 (fR (sH S t)) fR_ok) gX3_spread_X3_counted rfl hC1.1.1 (T := TX3) (N := 7) rfl (show (_ = _ ∧ _ ≠ _ ∧ _ ≠ _ ∧ _ = some 1) by decide +kernel) ⟨Nat.le_of_ble_eq_true rfl, Nat.le_of_ble_eq_true rfl⟩ rfl (Nat.le_of_ble_eq_true rfl) dX3_spread_36 ⟨Nat.le_of_ble_eq_true rfl, Nat.le_of_ble_eq_true rfl⟩ (fun v M1 H locs hq w => ?_)
        obtain ⟨rfl, hC9⟩ := hq
        refine W.eq (g2 := F0 m 39 ls [.int (fR (sH S t))]) rfl ?_
        exact m_iret C w dX3_spread_39 (by omega) (by omega) (⟨by rw [hm0]; unfold spr1; rw [if_pos (by omega)], by rw [hm0]; unfold spr1; rw [if_pos (by omega), kep_no h2]; exact ⟨A, tr, f1, g1, hC9, hR1⟩⟩)
  · skip
    have n_4 : (inP t1 12) = false := bI_f c_4
    refine lv_bipush (v := (-6)) hx hb dX3_spread_7 (by decide) ?_
    exact m_iret C w dX3_spread_9 (by omega) (by omega) (⟨by rw [(show sp_spread S t1 n1 = (-6, S) by unfold sp_spread; rw [if_pos (by first | simp [n_4])])], by rw [(show sp_spread S t1 n1 = (-6, S) by unfold sp_spread; rw [if_pos (by first | simp [n_4])])]; exact ⟨A, tr, f, g, hC, hR⟩⟩)
set_option maxRecDepth 100000 in
set_option maxHeartbeats 4000000 in
theorem c_undo_n (l : Launch) (D : va_G) (y : mY) (S0 : Nat) (M F : mp) (h0 : Nat) (A : Ad) (tr : Nat → Nat) (f : Nat → Nat → Int64) (g : Nat → Nat → Option Nat) (S : St) (hC : CW y h0 A tr f g S M) (c0 : Nat) (hI : Inv c0 S) (hR : CR A f g S) (hB : sB S = none) : ct l yX3_undo wsX3_undo 1 23 0 0 D y S0 M F [.ref h0] (fun v M' => v = some (.int (sp_undo S ).1) ∧ RC y h0 (sp_undo S ).2 M') := by
  refine ct_of cX3_undo 3 (some .int) [(0, .ref h0)] (by decide +kernel) rfl (Nat.le_of_ble_eq_true rfl) rfl ?_
  intro p e s m below meth c ls C hnm hl w
  have hx := C.1
  have hb := C.2.1
  have hi_X0 : ∀ w ∈ u_ws RX0 TX0 5, w ∈ wsX3_undo := by decide +kernel
  have hi_X3 : ∀ w ∈ u_ws RX3 TX3 7, w ∈ wsX3_undo := by decide +kernel
  have hb1 : M h0 = some (eO 2 [.ref (xN A), .ref (xT A), .ref (xB A), .null, .ref (xY A), .int (nI (sI S)), .int (nI (sP S))]) := by rw [hC.1.1]; show some (eO 2 [_, _, _, va_rf ((sB S).map (xr A)), _, _, _]) = _; rw [hB]; rfl
  refine lv_aload_n hx hb dX3_undo_0 rfl (lv_at hl 0 rfl) ?_
  refine m_get C w hb1 (index := 25) (T := TX3) (N := 7) rfl hi_X3 3 (by decide) (by decide +kernel) rfl dX3_undo_1 ?_
  refine lv_astore_nN (lv' := [(1, .null), (0, .ref h0)]) hx hb dX3_undo_4 rfl hl (by decide) rfl (fun ls hl => ?_)
  refine lv_aload_n hx hb dX3_undo_5 rfl (lv_at hl 1 rfl) ?_
  refine lv_null hx hb dX3_undo_6 ?_
  refine m_put C w hb1 (v := .null) (index := 25) (T := TX3) (N := 7) rfl hi_X3 tyX3 tyX3_ok nmX3 3 (by decide) (by decide +kernel) rfl (tyX3_ok 3 (by decide)) rfl rfl (Nat.le_of_ble_eq_true rfl) dX3_undo_7 (fun H locs w => ?_)
  obtain ⟨M1, e_M1⟩ : ∃ z, z = mu M h0 (eO 2 (bF A (wBf S none (sF S)))) := ⟨_, rfl⟩
  have w : mS D S0 M1 F s H locs := by rw [e_M1]; exact w
  have hC1 : CW y h0 A tr f g (wBf S none (sF S)) M1 := by rw [e_M1]; exact hC.ben _ ⟨rfl, rfl, rfl, rfl, rfl, rfl, rfl, rfl, rfl⟩
  refine lv_aload_nN hx hb dX3_undo_10 rfl (lv_at hl 0 rfl) ?_
  refine lv_ifnonnullN hx hb dX3_undo_11 ?_
  refine lv_iconst (v := (-1)) hx hb dX3_undo_14 (by decide) ?_
  exact m_iret C w dX3_undo_15 (by omega) (by omega) (⟨by unfold sp_undo; rw [hB], by
    unfold sp_undo
    rw [hB]
    refine ⟨A, tr, f, g, ?_, hR⟩
    have e : wBf S none (sF S) = S := by rw [← hB]; rfl
    rw [e] at hC1
    exact hC1⟩)
set_option maxRecDepth 100000 in
set_option maxHeartbeats 4000000 in
theorem c_undo_s (l : Launch) (D : va_G) (y : mY) (S0 : Nat) (M F : mp) (h0 : Nat) (A : Ad) (tr : Nat → Nat) (f : Nat → Nat → Int64) (g : Nat → Nat → Option Nat) (S : St) (hC : CW y h0 A tr f g S M) (c0 : Nat) (hI : Inv c0 S) (hR : CR A f g S) (r : Nat) (hB : sB S = some r) : ct l yX3_undo wsX3_undo 1 23 0 0 D y S0 M F [.ref h0] (fun v M' => v = some (.int (sp_undo S ).1) ∧ RC y h0 (sp_undo S ).2 M') := by
  refine ct_of cX3_undo 3 (some .int) [(0, .ref h0)] (by decide +kernel) rfl (Nat.le_of_ble_eq_true rfl) rfl ?_
  intro p e s m below meth c ls C hnm hl w
  have hx := C.1
  have hb := C.2.1
  have hi_X0 : ∀ w ∈ u_ws RX0 TX0 5, w ∈ wsX3_undo := by decide +kernel
  have hi_X3 : ∀ w ∈ u_ws RX3 TX3 7, w ∈ wsX3_undo := by decide +kernel
  have hb1 : M h0 = some (eO 2 [.ref (xN A), .ref (xT A), .ref (xB A), .ref (xr A r), .ref (xY A), .int (nI (sI S)), .int (nI (sP S))]) := by rw [hC.1.1]; show some (eO 2 [_, _, _, va_rf ((sB S).map (xr A)), _, _, _]) = _; rw [hB]; rfl
  have hr : r < sN S := (hI.2.2.2.2.2.2.2.1 r hB).1
  have hz64 : sZ S r ≤ 64 := (hI.2.2.2.1 r hr).2.2.1
  refine lv_aload_n hx hb dX3_undo_0 rfl (lv_at hl 0 rfl) ?_
  refine m_get C w hb1 (index := 25) (T := TX3) (N := 7) rfl hi_X3 3 (by decide) (by decide +kernel) rfl dX3_undo_1 ?_
  refine lv_astore_n (lv' := [(1, .ref (xr A r)), (0, .ref h0)]) hx hb dX3_undo_4 rfl hl (by decide) rfl (fun ls hl => ?_)
  refine lv_aload_n hx hb dX3_undo_5 rfl (lv_at hl 1 rfl) ?_
  refine lv_null hx hb dX3_undo_6 ?_
  refine m_put C w hb1 (v := .null) (index := 25) (T := TX3) (N := 7) rfl hi_X3 tyX3 tyX3_ok nmX3 3 (by decide) (by decide +kernel) rfl (tyX3_ok 3 (by decide)) rfl rfl (Nat.le_of_ble_eq_true rfl) dX3_undo_7 (fun H locs w => ?_)
  obtain ⟨M1, e_M1⟩ : ∃ z, z = mu M h0 (eO 2 (bF A (wBf S none (sF S)))) := ⟨_, rfl⟩
  have w : mS D S0 M1 F s H locs := by rw [e_M1]; exact w
  have hC1 : CW y h0 A tr f g (wBf S none (sF S)) M1 := by rw [e_M1]; exact hC.ben _ ⟨rfl, rfl, rfl, rfl, rfl, rfl, rfl, rfl, rfl⟩
  refine lv_aload_n hx hb dX3_undo_10 rfl (lv_at hl 0 rfl) ?_
  refine lv_ifnonnull (tgt := 16) hx hb dX3_undo_11 (by decide) ?_
  refine lv_iconst (v := 0) hx hb dX3_undo_16 (by decide) ?_
  refine lv_istore_n (lv' := [(2, .int 0), (1, .ref (xr A r)), (0, .ref h0)]) hx hb dX3_undo_17 rfl hl (by decide) rfl (fun ls hl => ?_)
  have lp : ∀ (kf : Nat) (i : Nat) (f2 : Nat → Nat → Int64) (g2 : Nat → Nat → Option Nat) (M2 : mp), (i ≤ sZ S r) → (CW y h0 A tr f2 g2 (wBf S none (sF S)) M2) → (∀ j, j ≠ r + 1 → f2 j = f j ∧ g2 j = g j) → (∀ x, x < i → f2 (r + 1) x = f 0 x ∧ g2 (r + 1) x = g 0 x) →  ∀ (H : Heap) (locs : List Loc) (ls : Array Slot), sZ S r - i = kf → mS D S0 M2 F s H locs → lv_has ls 3 [(2, .int (nI i)), (1, .ref (xr A r)), (0, .ref h0)] → W p l e { frames := 1, cells := 0, slots := 0, locals := 23 } s m ([.ref h0] : List Value).toArray below meth c H locs 0 0 (MQ below (mQ D S0 F (fun v M' => v = some (.int (sp_undo S ).1) ∧ RC y h0 (sp_undo S ).2 M')) ([.ref h0] : List Value).toArray s 0 0 (fun q => S0 ≤ q)) (F0 m 18 ls []) := by
    clear w hl
    intro kf
    induction kf using Nat.strongRecOn with
    | _ kf ih_lp =>
      intro i f2 g2 M2 hi hC2 hf hd H locs ls hkf w hl
      have hq2 : M2 (xr A r) = some (eO 0 (hF (sK S r) (sZ S r) 0 (xn A (r + 1)) (xt A (r + 1)))) := hC2.1.2.2.2.2.2.1 r hr
      have hn2 : M2 (xn A (r + 1)) = some (eL y (sZ S r) (f2 (r + 1))) := hC2.2.1.1 (r + 1) hr
      have ht2 : M2 (xt A (r + 1)) = some (eT y (sZ S r) (g2 (r + 1))) := hC2.2.1.2.1 (r + 1) hr
      refine lv_iload_n hx hb dX3_undo_18 rfl (lv_at hl 0 rfl) ?_
      refine lv_aload_n hx hb dX3_undo_19 rfl (lv_at hl 1 rfl) ?_
      refine m_getN C w hq2 (index := 89) (host := "BeadBench") (T := TX0) (N := 5) rfl hi_X0 1 (by decide) (by decide +kernel) rfl dX3_undo_20 ?_
      refine lv_icmp_ge (tgt := 42) hx hb dX3_undo_23 (by decide) (fun c_23 => ?_) (fun c_23 => ?_)
      · skip
        have n_23 : (sZ S r) ≤ i := (nI_leI (by omega) (by omega)).mp c_23
        refine lv_aload_n hx hb dX3_undo_42 rfl (lv_at hl 1 rfl) ?_
        refine m_getN C w hq2 (index := 89) (host := "BeadBench") (T := TX0) (N := 5) rfl hi_X0 1 (by decide) (by decide +kernel) rfl dX3_undo_43 ?_
        exact m_iret C w dX3_undo_46 (by omega) (by omega) (⟨by unfold sp_undo; rw [hB], by
          unfold sp_undo
          rw [hB]
          exact ⟨A, tr, f2, g2, hC2, fun r2 x hr2 hx => by
            have hx : x < sZ S r2 := hx
            show f2 (r2 + 1) x = nu (sK S r2) ((va_up (sC S) r (sF S)) r2 x) ∧ g2 (r2 + 1) x = th A (sK S r2) ((va_up (sC S) r (sF S)) r2 x)
            by_cases e : r2 = r
            · rw [e] at hx ⊢
              rw [show (va_up (sC S) r (sF S)) r x = sF S x by simp [va_up], (hd x (by omega)).1, (hd x (by omega)).2]
              exact hR.2 r x hB hx
            · rw [show (va_up (sC S) r (sF S)) r2 = sC S r2 by simp [va_up, e], (hf _ (fun h => e (Nat.succ.inj h))).1, (hf _ (fun h => e (Nat.succ.inj h))).2]
              exact hR.1 r2 x hr2 hx, fun r2 x hr2 hx => by cases hr2⟩⟩)
      · skip
        have n_23 : ¬ (sZ S r) ≤ i := fun h => absurd ((nI_leI (by omega) (by omega)).mpr h) c_23
        refine lv_aload_n hx hb dX3_undo_26 rfl (lv_at hl 1 rfl) ?_
        refine lv_iload_n hx hb dX3_undo_27 rfl (lv_at hl 0 rfl) ?_
        refine lv_aload_n hx hb dX3_undo_28 rfl (lv_at hl 2 rfl) ?_
        refine m_get C w hC2.1.1 (index := 22) (T := TX3) (N := 7) rfl hi_X3 2 (by decide) (by decide +kernel) rfl dX3_undo_29 ?_
        refine lv_iload_n hx hb dX3_undo_32 rfl (lv_at hl 0 rfl) ?_
        refine m_callV C w hl.1 (As := [.int (nI i), .ref (xB A), .int (nI i)]) (rest := []) (c_Hold_copy l D y S0 M2 F (xr A r) (sK S r) (sZ S r) 0 (xn A (r + 1)) (xt A (r + 1)) hq2 (xB A) 0 64 0 (xn A 0) (xt A 0) hC2.1.2.2.2.1 (f2 (r + 1)) (f2 0) (g2 (r + 1)) (g2 0) hn2 ht2 (hC2.2.1.1 0 (Nat.zero_le _)) (hC2.2.1.2.1 0 (Nat.zero_le _)) i i (by omega) (by omega) (by omega) (by omega) (fun z hz => hC2.1.th (hC2.2.1.2.2 0 i z (Nat.zero_le _) (by rw [zz_0]; omega) hz))) gX3_undo_X0_copyPlace rfl hq2 (T := TX0) (N := 5) rfl (show (_ = _ ∧ _ ≠ _ ∧ _ ≠ _ ∧ _ = some 3) by decide +kernel) ⟨Nat.le_of_ble_eq_true rfl, Nat.le_of_ble_eq_true rfl⟩ rfl (Nat.le_of_ble_eq_true rfl) dX3_undo_33 ⟨Nat.le_of_ble_eq_true rfl, Nat.le_of_ble_eq_true rfl⟩ (fun v M1 H locs hq w => ?_)
        obtain ⟨rfl, hM1⟩ := hq
        have hC3 := hC2.copy (a := r + 1) (b := 0) (i := i) (j := i) hr (Nat.zero_le _) (by rw [zz_s]; show i < sZ S r; omega) (by rw [zz_0]; omega)
        rw [show zz (wBf S none (sF S)) (r + 1) = sZ S r from zz_s _ _, ← hM1] at hC3
        refine W.eq (g2 := F0 m 36 ls []) rfl ?_
        refine lv_iinc (v := nI (i + 1)) (lv' := [(2, .int (nI (i + 1))), (1, .ref (xr A r)), (0, .ref h0)]) hx hb dX3_undo_36 hl (k := 0) rfl (by first | exact nI_1 _ | exact nI_add _ _ | rfl) (by decide) rfl (fun ls hl => ?_)
        refine lv_goto (tgt := 18) hx hb dX3_undo_39 (by decide) ?_
        exact ih_lp (sZ S r - (i + 1)) (by omega) (i + 1) _ _ M1 (by omega) hC3 (fun j hj => ⟨(up2_r hj).trans (hf j hj).1, (up2_r hj).trans (hf j hj).2⟩) (fun x hx => by
            by_cases e : x = i
            · rw [e, up2_s, up2_s, (hf 0 (Ne.symm (Nat.succ_ne_zero _))).1, (hf 0 (Ne.symm (Nat.succ_ne_zero _))).2]; exact ⟨rfl, rfl⟩
            · rw [up2_o (Or.inr e), up2_o (Or.inr e)]; exact hd x (by omega)) _ _ ls rfl w (lv_sub hl [0, 1, 2] rfl)
  exact lp _ 0 f g M1 (by omega) hC1 (fun _ _ => ⟨rfl, rfl⟩) (fun x hx => by omega) _ _ ls rfl w (lv_sub hl [0, 1, 2] rfl)
theorem c_undo (l : Launch) (D : va_G) (y : mY) (S0 : Nat) (M F : mp) (h0 : Nat) (A : Ad) (tr : Nat → Nat) (f : Nat → Nat → Int64) (g : Nat → Nat → Option Nat) (S : St) (hC : CW y h0 A tr f g S M) (c0 : Nat) (hI : Inv c0 S) (hR : CR A f g S) : ct l yX3_undo wsX3_undo 1 23 0 0 D y S0 M F [.ref h0] (fun v M' => v = some (.int (sp_undo S ).1) ∧ RC y h0 (sp_undo S ).2 M') := by
  cases hB : sB S with
  | none => exact c_undo_n l D y S0 M F h0 A tr f g S hC c0 hI hR hB
  | some r => exact c_undo_s l D y S0 M F h0 A tr f g S hC c0 hI hR r hB
