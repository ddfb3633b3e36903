theorem unlK_0 {a b : Nat} (h : unlK a b = 0) : 2 ≤ a ∧ 2 ≤ b ∧ ¬ ((isN a || isN b) = true ∧ a ≠ b) := by
  unfold unlK at h
  by_cases h1 : a = 0 ∨ b = 0
  · rw [if_pos h1] at h; exact absurd h (by decide)
  · rw [if_neg h1] at h
    by_cases h2 : a = 1 ∨ b = 1
    · rw [if_pos h2] at h; exact absurd h (by decide)
    · rw [if_neg h2] at h
      by_cases h3 : (isN a || isN b) = true ∧ a ≠ b
      · rw [if_pos h3] at h; exact absurd h (by decide)
      · exact ⟨by omega, by omega, h3⟩
set_option maxRecDepth 100000 in
set_option maxHeartbeats 4000000 in
/-- the MOVE, behind keep(b) -/
theorem c_carry (l : Launch) (D : va_G) (y : mY) (S0 : Nat) (M F : mp) (h0 : Nat) (A : Ad) (tr : Nat → Nat) (f : Nat → Nat → Int64) (g : Nat → Nat → Option Nat) (S : St) (hC : CW y h0 A tr f g S M) (c0 : Nat) (hI : Inv c0 S) (hR : CR A f g S) (a b : Nat) (ha : a < 12) (hb2 : b < 12) (p1 q1 n1 : Int32) (hkp : 2 ≤ sH S b → sB S = some (rowT S b) ∧ sF S = sC S (rowT S b)) : ct l yX3_carry wsX3_carry 2 42 0 0 D y S0 M F [.ref h0, .ref (tr a), .int p1, .ref (tr b), .int q1, .int n1] (fun v M' => v = some (.int (movd S a p1 b q1 n1).1) ∧ ∃ f' g', CW y h0 A tr f' g' (movd S a p1 b q1 n1).2 M' ∧ CR A f' g' (movd S a p1 b q1 n1).2) := by
  refine ct_of cX3_carry 8 (some .int) [(0, .ref h0), (1, .ref (tr a)), (2, .int p1), (3, .ref (tr b)), (4, .int q1), (5, .int n1)] (by decide +kernel) rfl (Nat.le_of_ble_eq_true rfl) rfl ?_
  intro p e s m below meth c ls C hnm hl w
  have hx := C.1
  have hb := C.2.1
  have hi_X0 : ∀ w ∈ u_ws RX0 TX0 5, w ∈ wsX3_carry := by decide +kernel
  have hi_X3 : ∀ w ∈ u_ws RX3 TX3 7, w ∈ wsX3_carry := by decide +kernel
  obtain ⟨tka, naa, taa, hqa, -, hra⟩ := hC.1.tray hI ha
  obtain ⟨tkb, nab, tab, hqb, -, hrb⟩ := hC.1.tray hI hb2
  have hka : sH S a < 14 := by have := (hI.2.2.2.2.2.2.1 a ha).1; omega
  have hkb : sH S b < 14 := by have := (hI.2.2.2.2.2.2.1 b hb2).1; omega
  have hza := zT_le hI ha
  have hzb := zT_le hI hb2
  refine lv_aload_n hx hb dX3_carry_0 rfl (lv_at hl 0 rfl) ?_
  refine lv_iconst (v := 0) hx hb dX3_carry_1 (by decide) ?_
  refine m_put C w hC.1.1 (v := .int 0) (index := 32) (T := TX3) (N := 7) rfl hi_X3 tyX3 tyX3_ok nmX3 5 (by decide) (by decide +kernel) rfl (tyX3_ok 5 (by decide)) rfl rfl (Nat.le_of_ble_eq_true rfl) dX3_carry_2 (fun H locs w => ?_)
  obtain ⟨M1, e_M1⟩ : ∃ z, z = mu M h0 (eO 2 (bF A (wFl S 0))) := ⟨_, rfl⟩
  have w : mS D S0 M1 F s H locs := by rw [e_M1]; exact w
  have hC1 : CW y h0 A tr f g (wFl S 0) M1 := by rw [e_M1]; exact hC.ben _ ⟨rfl, rfl, rfl, rfl, rfl, rfl, rfl, rfl, rfl⟩
  have hqa1 : M1 (tr a) = some (eO 0 (hF (sH S a) (zT S a) tka naa taa)) := by rw [e_M1]; exact mu_k (m_ne hqa hC.1.1 (by simp)) hqa
  have hqb1 : M1 (tr b) = some (eO 0 (hF (sH S b) (zT S b) tkb nab tab)) := by rw [e_M1]; exact mu_k (m_ne hqb hC.1.1 (by simp)) hqb
  refine lv_aload_n hx hb dX3_carry_5 rfl (lv_at hl 1 rfl) ?_
  refine lv_aload_n hx hb dX3_carry_6 rfl (lv_at hl 3 rfl) ?_
  refine m_callS C w hl.1 (As := [.ref (tr a), .ref (tr b)]) (rest := []) (c_pair l D y S0 M1 F (tr a) (sH S a) (zT S a) tka naa taa hqa1 hka hza (tr b) (sH S b) (zT S b) tkb nab tab hqb1 hkb hzb) ggX3_carry_X3_refusalOfPair rfl (by decide +kernel) (by decide +kernel) (by decide +kernel) (show (_ ≠ _ ∧ _ ≠ _ ∧ _ = some 2) by decide +kernel) ⟨Nat.le_of_ble_eq_true rfl, Nat.le_of_ble_eq_true rfl⟩ rfl (Nat.le_of_ble_eq_true rfl) dX3_carry_7 ⟨Nat.le_of_ble_eq_true rfl, Nat.le_of_ble_eq_true rfl⟩ (fun v M1 H locs hq w => ?_)
  obtain ⟨rfl, hM1⟩ := hq
  rw [hM1] at w
  clear hM1 M1
  refine W.eq (g2 := F0 m 10 ls [.int (unlK (sH S a) (sH S b))]) rfl ?_
  refine lv_istore (lv' := [(6, .int (unlK (sH S a) (sH S b))), (0, .ref h0), (1, .ref (tr a)), (2, .int p1), (3, .ref (tr b)), (4, .int q1), (5, .int n1)]) hx hb dX3_carry_10 hl (by decide) rfl (fun ls hl => ?_)
  refine lv_iload hx hb dX3_carry_12 (lv_at hl 0 rfl) ?_
  refine lv_if_eq (tgt := 20) hx hb dX3_carry_14 (by decide) (fun c_14 => ?_) (fun c_14 => ?_)
  · skip
    refine lv_aload_n hx hb dX3_carry_20 rfl (lv_at hl 2 rfl) ?_
    refine lv_iload_n hx hb dX3_carry_21 rfl (lv_at hl 3 rfl) ?_
    refine lv_iload hx hb dX3_carry_22 (lv_at hl 6 rfl) ?_
    refine m_callV C w hl.1 (As := [.int p1, .int n1]) (rest := []) (c_Hold_hasPlaces l D y S0 M1 F (tr a) (sH S a) (zT S a) tka naa taa hqa1 hka hza p1 n1) gX3_carry_X0_hasPlaces rfl hqa1 (T := TX0) (N := 5) rfl (show (_ = _ ∧ _ ≠ _ ∧ _ ≠ _ ∧ _ = some 2) by decide +kernel) ⟨Nat.le_of_ble_eq_true rfl, Nat.le_of_ble_eq_true rfl⟩ rfl (Nat.le_of_ble_eq_true rfl) dX3_carry_24 ⟨Nat.le_of_ble_eq_true rfl, Nat.le_of_ble_eq_true rfl⟩ (fun v M1 H locs hq w => ?_)
    obtain ⟨rfl, hM1⟩ := hq
    rw [hM1] at w
    clear hM1 M1
    refine W.eq (g2 := F0 m 27 ls [.int (bI (hpl p1 n1 (zT S a)))]) rfl ?_
    refine lv_if_eq (tgt := 41) hx hb dX3_carry_27 (by decide) (fun c_27 => ?_) (fun c_27 => ?_)
    · skip
      have n_27 : (hpl p1 n1 (zT S a)) = false := bI_f c_27
      refine lv_bipush (v := (-4)) hx hb dX3_carry_41 (by decide) ?_
      exact m_iret C w dX3_carry_43 (by omega) (by omega) (⟨by rw [(show movd S a p1 b q1 n1 = (-4, wFl S 0) by unfold movd; rw [if_neg (show ¬ ¬ unl S a b = 0 from fun h => h c_14), if_pos (by first | simp [n_27, n_38] | simp [n_27])])], f, g, by rw [(show movd S a p1 b q1 n1 = (-4, wFl S 0) by unfold movd; rw [if_neg (show ¬ ¬ unl S a b = 0 from fun h => h c_14), if_pos (by first | simp [n_27, n_38] | simp [n_27])])]; exact hC1, by rw [(show movd S a p1 b q1 n1 = (-4, wFl S 0) by unfold movd; rw [if_neg (show ¬ ¬ unl S a b = 0 from fun h => h c_14), if_pos (by first | simp [n_27, n_38] | simp [n_27])])]; exact hR⟩)
    · skip
      have n_27 : (hpl p1 n1 (zT S a)) = true := bI_t c_27
      refine lv_aload_n hx hb dX3_carry_30 rfl (lv_at hl 4 rfl) ?_
      refine lv_iload hx hb dX3_carry_31 (lv_at hl 5 rfl) ?_
      refine lv_iload hx hb dX3_carry_33 (lv_at hl 6 rfl) ?_
      refine m_callV C w hl.1 (As := [.int q1, .int n1]) (rest := []) (c_Hold_hasPlaces l D y S0 M1 F (tr b) (sH S b) (zT S b) tkb nab tab hqb1 hkb hzb q1 n1) gX3_carry_X0_hasPlaces rfl hqb1 (T := TX0) (N := 5) rfl (show (_ = _ ∧ _ ≠ _ ∧ _ ≠ _ ∧ _ = some 2) by decide +kernel) ⟨Nat.le_of_ble_eq_true rfl, Nat.le_of_ble_eq_true rfl⟩ rfl (Nat.le_of_ble_eq_true rfl) dX3_carry_35 ⟨Nat.le_of_ble_eq_true rfl, Nat.le_of_ble_eq_true rfl⟩ (fun v M1 H locs hq w => ?_)
      obtain ⟨rfl, hM1⟩ := hq
      rw [hM1] at w
      clear hM1 M1
      refine W.eq (g2 := F0 m 38 ls [.int (bI (hpl q1 n1 (zT S b)))]) rfl ?_
      refine lv_if_ne (tgt := 44) hx hb dX3_carry_38 (by decide) (fun c_38 => ?_) (fun c_38 => ?_)
      · skip
        have n_38 : (hpl q1 n1 (zT S b)) = true := bI_t c_38
        obtain ⟨h2a, h2b, hcm⟩ := unlK_0 c_14
        obtain ⟨pp, nn, hp, hn, hpn⟩ := hpl_t hza n_27
        obtain ⟨qq, nn2, hq9, hn2, hqn⟩ := hpl_t hzb n_38
        have e2 : nn = nn2 := (nI_eq (by omega) (by omega)).mp (hn.symm.trans hn2)
        subst e2
        obtain ⟨hra1, -, eka, eta, -, -⟩ := hra h2a
        obtain ⟨hrb1, -, ekb, etb, -, -⟩ := hrb h2b
        have hzA : zT S a = sZ S (rowT S a) := by unfold zT; rw [if_pos h2a]
        have hzB : zT S b = sZ S (rowT S b) := by unfold zT; rw [if_pos h2b]
        have hm : movd S a p1 b q1 n1 = (if mvK S a pp b nn < nn then -5 else nI nn, wFl (mvR S a pp b qq (mvK S a pp b nn)) (mvK S a pp b nn)) := by
          unfold movd
          rw [if_neg (show ¬ ¬ unl S a b = 0 from fun h => h c_14), if_neg (by rw [n_27, n_38]; decide), hp, hq9, hn, cN_nI (by omega), cN_nI (by omega), cN_nI (by omega)]
        have hvl : ∀ x, x < zT S a → val S (sK S (rowT S a)) (sC S (rowT S a) x) := fun x hx => (hI.2.2.2.1 (rowT S a) hra1).2.2.2 x (by omega)
        have hag : ∀ x, x < zT S a → acc (sH S b) (srt S (sK S (rowT S a)) (sC S (rowT S a) x)) = gs S (sH S b) (sC S (rowT S a) x) := fun x hx => acc_gs hI (hvl x hx) ⟨h2b, by omega⟩ (by omega) (by rw [eka]; exact hcm)
        have hnt := kin_nu (ka := sK S (rowT S a)) (kb := sK S (rowT S b)) (by omega) (by omega) (by rw [eka, ekb]; exact hcm) A
        refine lv_aload_n hx hb dX3_carry_44 rfl (lv_at hl 2 rfl) ?_
        refine lv_aload_n hx hb dX3_carry_45 rfl (lv_at hl 4 rfl) ?_
        refine lv_acmp_ne (rx := some (tr a)) (ry := some (tr b)) (tgt := 56) hx hb dX3_carry_46 (by decide) (fun c_46 => ?_) (fun c_46 => ?_)
        · skip
          have hsl : rowT S a + 1 ≠ rowT S b + 1 := fun e => c_46 (by rw [eta, etb, Nat.succ.inj e])
          have hfS : ∀ x, x < zT S a → f (rowT S a + 1) x = nu (sK S (rowT S a)) (sC S (rowT S a) x) ∧ g (rowT S a + 1) x = th A (sK S (rowT S a)) (sC S (rowT S a) x) := fun x hx => hR.1 _ x hra1 (by omega)
          refine lv_aload_n hx hb dX3_carry_56 rfl (lv_at hl 2 rfl) ?_
          refine lv_astore (lv' := [(7, .ref (tr a)), (6, .int (unlK (sH S a) (sH S b))), (0, .ref h0), (1, .ref (tr a)), (2, .int p1), (3, .ref (tr b)), (4, .int q1), (5, .int n1)]) hx hb dX3_carry_57 hl (by decide) rfl (fun ls hl => ?_)
          have lp : ∀ (kf : Nat) (k : Nat) (f1 : Nat → Nat → Int64) (g1 : Nat → Nat → Option Nat) (M2 : mp), (k ≤ nn) → (CW y h0 A tr f1 g1 (wFl S k) M2) → (∀ x, x < k → gs S (sH S b) (sC S (rowT S a) (pp + x)) = true) → (∀ j, j ≠ rowT S b + 1 → f1 j = f j ∧ g1 j = g j) → (∀ x, f1 (rowT S b + 1) x = (if qq ≤ x ∧ x < qq + k then f (rowT S a + 1) (pp + (x - qq)) else f (rowT S b + 1) x) ∧ g1 (rowT S b + 1) x = (if qq ≤ x ∧ x < qq + k then g (rowT S a + 1) (pp + (x - qq)) else g (rowT S b + 1) x)) →  ∀ (H : Heap) (locs : List Loc) (ls : Array Slot), nn - k = kf → mS D S0 M2 F s H locs → lv_has ls 8 [(0, .ref h0), (1, .ref (tr a)), (2, .int p1), (3, .ref (tr b)), (4, .int q1), (5, .int n1), (7, .ref (tr a))] → W p l e { frames := 2, cells := 0, slots := 0, locals := 42 } s m ([.ref h0, .ref (tr a), .int p1, .ref (tr b), .int q1, .int n1] : List Value).toArray below meth c H locs 0 0 (MQ below (mQ D S0 F (fun v M' => v = some (.int (movd S a p1 b q1 n1).1) ∧ ∃ f' g', CW y h0 A tr f' g' (movd S a p1 b q1 n1).2 M' ∧ CR A f' g' (movd S a p1 b q1 n1).2)) ([.ref h0, .ref (tr a), .int p1, .ref (tr b), .int q1, .int n1] : List Value).toArray s 0 0 (fun q => S0 ≤ q)) (F0 m 59 ls []) := by
            clear w hl
            intro kf
            induction kf using Nat.strongRecOn with
            | _ kf ih_lp =>
              intro k f1 g1 M2 hk hC2 hK hf hd H locs ls hkf w hl
              have hqb2 : M2 (tr b) = some (eO 0 (hF (sH S b) (zT S b) 0 (xn A (rowT S b + 1)) (xt A (rowT S b + 1)))) := by rw [etb, hzB, ← ekb]; exact hC2.1.2.2.2.2.2.1 (rowT S b) hrb1
              have hsrc : M2 (tr a) = some (eO 0 (hF (sH S a) (zT S a) 0 (xn A (rowT S a + 1)) (xt A (rowT S a + 1)))) := by rw [eta, hzA, ← eka]; exact hC2.1.2.2.2.2.2.1 (rowT S a) hra1
              have hnS : M2 (xn A (rowT S a + 1)) = some (eL y (zT S a) (f1 (rowT S a + 1))) := by rw [hzA]; exact hC2.2.1.1 (rowT S a + 1) hra1
              have htS : M2 (xt A (rowT S a + 1)) = some (eT y (zT S a) (g1 (rowT S a + 1))) := by rw [hzA]; exact hC2.2.1.2.1 (rowT S a + 1) hra1
              have hnB : M2 (xn A (rowT S b + 1)) = some (eL y (zT S b) (f1 (rowT S b + 1))) := by rw [hzB]; exact hC2.2.1.1 _ hrb1
              have htB : M2 (xt A (rowT S b + 1)) = some (eT y (zT S b) (g1 (rowT S b + 1))) := by rw [hzB]; exact hC2.2.1.2.1 _ hrb1
              refine lv_aload_n hx hb dX3_carry_59 rfl (lv_at hl 0 rfl) ?_
              refine m_get C w hC2.1.1 (index := 32) (T := TX3) (N := 7) rfl hi_X3 5 (by decide) (by decide +kernel) rfl dX3_carry_60 ?_
              refine lv_iload hx hb dX3_carry_63 (lv_at hl 5 rfl) ?_
              refine m_topi (y := nI nn) hn ?_
              refine lv_icmp_ge (tgt := 119) hx hb dX3_carry_65 (by decide) (fun c_65 => ?_) (fun c_65 => ?_)
              · skip
                have n_65 : nn ≤ k := (nI_leI (by omega) (by omega)).mp c_65
                refine lv_aload_n hx hb dX3_carry_119 rfl (lv_at hl 0 rfl) ?_
                refine m_get C w hC2.1.1 (index := 32) (T := TX3) (N := 7) rfl hi_X3 5 (by decide) (by decide +kernel) rfl dX3_carry_120 ?_
                refine lv_iload hx hb dX3_carry_123 (lv_at hl 5 rfl) ?_
                refine m_topi (y := nI nn) hn ?_
                refine lv_icmp_ge (tgt := 133) hx hb dX3_carry_125 (by decide) (fun c_125 => ?_) (fun c_125 => ?_)
                · skip
                  have n_125 : nn ≤ k := (nI_leI (by omega) (by omega)).mp c_125
                  refine lv_iload hx hb dX3_carry_133 (lv_at hl 5 rfl) ?_
                  refine m_topi (y := nI nn) hn ?_
                  exact m_iret C w dX3_carry_135 (by omega) (by omega) (by
                    have hKe : mvK S a pp b nn = k := ld_eq (by omega) hK (by first | exact Or.inl (by omega) | exact Or.inr (by rw [← hag _ (by omega)]; exact n_84))
                    refine ⟨by rw [hm, hKe]; rw [if_neg (by omega)], f1, g1, by rw [hm, hKe]; exact hC2, ?_⟩
                    rw [hm, hKe]
                    refine ⟨fun r x hr hx => ?_, fun r x hr hx => ?_⟩
                    · show f1 (r + 1) x = nu (sK S r) (va_up (sC S) (rowT S b) (fun j => if qq ≤ j ∧ j < qq + k then sC S (rowT S a) (pp + (j - qq)) else sC S (rowT S b) j) r x) ∧ g1 (r + 1) x = th A (sK S r) (va_up (sC S) (rowT S b) (fun j => if qq ≤ j ∧ j < qq + k then sC S (rowT S a) (pp + (j - qq)) else sC S (rowT S b) j) r x)
                      have hx : x < sZ S r := hx
                      by_cases e : r = rowT S b
                      · subst e
                        rw [(hd x).1, (hd x).2]
                        by_cases h9 : qq ≤ x ∧ x < qq + k
                        · have e9 : va_up (sC S) (rowT S b) (fun j => if qq ≤ j ∧ j < qq + k then sC S (rowT S a) (pp + (j - qq)) else sC S (rowT S b) j) (rowT S b) x = sC S (rowT S a) (pp + (x - qq)) := by simp [va_up, h9]
                          rw [if_pos h9, if_pos h9, e9, ← (hnt _).1, ← (hnt _).2]
                          exact hfS (pp + (x - qq)) (by omega)
                        · have e9 : va_up (sC S) (rowT S b) (fun j => if qq ≤ j ∧ j < qq + k then sC S (rowT S a) (pp + (j - qq)) else sC S (rowT S b) j) (rowT S b) x = sC S (rowT S b) x := by simp [va_up, h9]
                          rw [if_neg h9, if_neg h9, e9]
                          exact hR.1 _ x hrb1 hx
                      · have e9 : va_up (sC S) (rowT S b) (fun j => if qq ≤ j ∧ j < qq + k then sC S (rowT S a) (pp + (j - qq)) else sC S (rowT S b) j) r = sC S r := by simp [va_up, e]
                        rw [e9, (hf _ (fun h => e (Nat.succ.inj h))).1, (hf _ (fun h => e (Nat.succ.inj h))).2]
                        exact hR.1 r x hr hx
                    · rw [(hf 0 (Ne.symm (Nat.succ_ne_zero _))).1, (hf 0 (Ne.symm (Nat.succ_ne_zero _))).2]
                      exact hR.2 r x hr hx)
                · skip
                  have n_125 : ¬ nn ≤ k := fun h => absurd ((nI_leI (by omega) (by omega)).mpr h) c_125
                  refine lv_bipush (v := (-5)) hx hb dX3_carry_128 (by decide) ?_
                  refine lv_goto (tgt := 135) hx hb dX3_carry_130 (by decide) ?_
                  exact m_iret C w dX3_carry_135 (by omega) (by omega) (by
                    have hKe : mvK S a pp b nn = k := ld_eq (by omega) hK (by first | exact Or.inl (by omega) | exact Or.inr (by rw [← hag _ (by omega)]; exact n_84))
                    refine ⟨by rw [hm, hKe]; rw [if_pos (by omega)], f1, g1, by rw [hm, hKe]; exact hC2, ?_⟩
                    rw [hm, hKe]
                    refine ⟨fun r x hr hx => ?_, fun r x hr hx => ?_⟩
                    · show f1 (r + 1) x = nu (sK S r) (va_up (sC S) (rowT S b) (fun j => if qq ≤ j ∧ j < qq + k then sC S (rowT S a) (pp + (j - qq)) else sC S (rowT S b) j) r x) ∧ g1 (r + 1) x = th A (sK S r) (va_up (sC S) (rowT S b) (fun j => if qq ≤ j ∧ j < qq + k then sC S (rowT S a) (pp + (j - qq)) else sC S (rowT S b) j) r x)
                      have hx : x < sZ S r := hx
                      by_cases e : r = rowT S b
                      · subst e
                        rw [(hd x).1, (hd x).2]
                        by_cases h9 : qq ≤ x ∧ x < qq + k
                        · have e9 : va_up (sC S) (rowT S b) (fun j => if qq ≤ j ∧ j < qq + k then sC S (rowT S a) (pp + (j - qq)) else sC S (rowT S b) j) (rowT S b) x = sC S (rowT S a) (pp + (x - qq)) := by simp [va_up, h9]
                          rw [if_pos h9, if_pos h9, e9, ← (hnt _).1, ← (hnt _).2]
                          exact hfS (pp + (x - qq)) (by omega)
                        · have e9 : va_up (sC S) (rowT S b) (fun j => if qq ≤ j ∧ j < qq + k then sC S (rowT S a) (pp + (j - qq)) else sC S (rowT S b) j) (rowT S b) x = sC S (rowT S b) x := by simp [va_up, h9]
                          rw [if_neg h9, if_neg h9, e9]
                          exact hR.1 _ x hrb1 hx
                      · have e9 : va_up (sC S) (rowT S b) (fun j => if qq ≤ j ∧ j < qq + k then sC S (rowT S a) (pp + (j - qq)) else sC S (rowT S b) j) r = sC S r := by simp [va_up, e]
                        rw [e9, (hf _ (fun h => e (Nat.succ.inj h))).1, (hf _ (fun h => e (Nat.succ.inj h))).2]
                        exact hR.1 r x hr hx
                    · rw [(hf 0 (Ne.symm (Nat.succ_ne_zero _))).1, (hf 0 (Ne.symm (Nat.succ_ne_zero _))).2]
                      exact hR.2 r x hr hx)
              · skip
                have n_65 : ¬ nn ≤ k := fun h => absurd ((nI_leI (by omega) (by omega)).mpr h) c_65
                refine lv_aload_n hx hb dX3_carry_68 rfl (lv_at hl 3 rfl) ?_
                refine lv_aload hx hb dX3_carry_69 (lv_at hl 6 rfl) ?_
                refine m_getN C w hsrc (index := 73) (host := "BeadBench") (T := TX0) (N := 5) rfl hi_X0 4 (by decide) (by decide +kernel) rfl dX3_carry_71 ?_
                refine lv_iload_n hx hb dX3_carry_74 rfl (lv_at hl 2 rfl) ?_
                refine m_topi (y := nI pp) hp ?_
                refine lv_aload_n hx hb dX3_carry_75 rfl (lv_at hl 0 rfl) ?_
                refine m_get C w hC2.1.1 (index := 32) (T := TX3) (N := 7) rfl hi_X3 5 (by decide) (by decide +kernel) rfl dX3_carry_76 ?_
                refine lv_iadd hx hb dX3_carry_79 ?_
                refine m_topi (y := nI (pp + k)) (by first | exact nI_add _ _ | exact nI_1 _) ?_
                refine m_tald C w htS (pp + k) rfl (by omega) (by omega) dX3_carry_80 ?_
                have hth : thS M2 (g1 (rowT S a + 1) (pp + k)) (srt S (sK S (rowT S a)) (sC S (rowT S a) (pp + k))) := by rw [(hf _ hsl).2, (hfS _ (by omega)).2]; exact th_srt (S := wFl S k) (hI.fl (by omega)) hC2.1 (hvl _ (by omega))
                refine m_callV C w hl.1 (As := [va_rf ((g1 (rowT S a + 1)) (pp + k))]) (rest := []) (c_Hold_accepts l D y S0 M2 F (tr b) (sH S b) (zT S b) 0 (xn A (rowT S b + 1)) (xt A (rowT S b + 1)) hqb2 hkb hzb (g1 (rowT S a + 1) (pp + k)) _ hth) gX3_carry_X0_accepts rfl hqb2 (T := TX0) (N := 5) rfl (show (_ = _ ∧ _ ≠ _ ∧ _ ≠ _ ∧ _ = some 1) by decide +kernel) ⟨Nat.le_of_ble_eq_true rfl, Nat.le_of_ble_eq_true rfl⟩ rfl (Nat.le_of_ble_eq_true rfl) dX3_carry_81 ⟨Nat.le_of_ble_eq_true rfl, Nat.le_of_ble_eq_true rfl⟩ (fun v M1 H locs hq w => ?_)
                obtain ⟨rfl, hM1⟩ := hq
                rw [hM1] at w
                clear hM1 M1
                refine W.eq (g2 := F0 m 84 ls [.int (bI (acc (sH S b) (srt S (sK S (rowT S a)) (sC S (rowT S a) (pp + k)))))]) rfl ?_
                refine lv_if_eq (tgt := 119) hx hb dX3_carry_84 (by decide) (fun c_84 => ?_) (fun c_84 => ?_)
                · skip
                  have n_84 : (acc (sH S b) (srt S (sK S (rowT S a)) (sC S (rowT S a) (pp + k)))) = false := bI_f c_84
                  refine lv_aload_n hx hb dX3_carry_119 rfl (lv_at hl 0 rfl) ?_
                  refine m_get C w hC2.1.1 (index := 32) (T := TX3) (N := 7) rfl hi_X3 5 (by decide) (by decide +kernel) rfl dX3_carry_120 ?_
                  refine lv_iload hx hb dX3_carry_123 (lv_at hl 5 rfl) ?_
                  refine m_topi (y := nI nn) hn ?_
                  refine lv_icmp_ge (tgt := 133) hx hb dX3_carry_125 (by decide) (fun c_125 => ?_) (fun c_125 => ?_)
                  · skip
                    have n_125 : nn ≤ k := (nI_leI (by omega) (by omega)).mp c_125
                    refine lv_iload hx hb dX3_carry_133 (lv_at hl 5 rfl) ?_
                    refine m_topi (y := nI nn) hn ?_
                    exact m_iret C w dX3_carry_135 (by omega) (by omega) (by
                      have hKe : mvK S a pp b nn = k := ld_eq (by omega) hK (by first | exact Or.inl (by omega) | exact Or.inr (by rw [← hag _ (by omega)]; exact n_84))
                      refine ⟨by rw [hm, hKe]; rw [if_neg (by omega)], f1, g1, by rw [hm, hKe]; exact hC2, ?_⟩
                      rw [hm, hKe]
                      refine ⟨fun r x hr hx => ?_, fun r x hr hx => ?_⟩
                      · show f1 (r + 1) x = nu (sK S r) (va_up (sC S) (rowT S b) (fun j => if qq ≤ j ∧ j < qq + k then sC S (rowT S a) (pp + (j - qq)) else sC S (rowT S b) j) r x) ∧ g1 (r + 1) x = th A (sK S r) (va_up (sC S) (rowT S b) (fun j => if qq ≤ j ∧ j < qq + k then sC S (rowT S a) (pp + (j - qq)) else sC S (rowT S b) j) r x)
                        have hx : x < sZ S r := hx
                        by_cases e : r = rowT S b
                        · subst e
                          rw [(hd x).1, (hd x).2]
                          by_cases h9 : qq ≤ x ∧ x < qq + k
                          · have e9 : va_up (sC S) (rowT S b) (fun j => if qq ≤ j ∧ j < qq + k then sC S (rowT S a) (pp + (j - qq)) else sC S (rowT S b) j) (rowT S b) x = sC S (rowT S a) (pp + (x - qq)) := by simp [va_up, h9]
                            rw [if_pos h9, if_pos h9, e9, ← (hnt _).1, ← (hnt _).2]
                            exact hfS (pp + (x - qq)) (by omega)
                          · have e9 : va_up (sC S) (rowT S b) (fun j => if qq ≤ j ∧ j < qq + k then sC S (rowT S a) (pp + (j - qq)) else sC S (rowT S b) j) (rowT S b) x = sC S (rowT S b) x := by simp [va_up, h9]
                            rw [if_neg h9, if_neg h9, e9]
                            exact hR.1 _ x hrb1 hx
                        · have e9 : va_up (sC S) (rowT S b) (fun j => if qq ≤ j ∧ j < qq + k then sC S (rowT S a) (pp + (j - qq)) else sC S (rowT S b) j) r = sC S r := by simp [va_up, e]
                          rw [e9, (hf _ (fun h => e (Nat.succ.inj h))).1, (hf _ (fun h => e (Nat.succ.inj h))).2]
                          exact hR.1 r x hr hx
                      · rw [(hf 0 (Ne.symm (Nat.succ_ne_zero _))).1, (hf 0 (Ne.symm (Nat.succ_ne_zero _))).2]
                        exact hR.2 r x hr hx)
                  · skip
                    have n_125 : ¬ nn ≤ k := fun h => absurd ((nI_leI (by omega) (by omega)).mpr h) c_125
                    refine lv_bipush (v := (-5)) hx hb dX3_carry_128 (by decide) ?_
                    refine lv_goto (tgt := 135) hx hb dX3_carry_130 (by decide) ?_
                    exact m_iret C w dX3_carry_135 (by omega) (by omega) (by
                      have hKe : mvK S a pp b nn = k := ld_eq (by omega) hK (by first | exact Or.inl (by omega) | exact Or.inr (by rw [← hag _ (by omega)]; exact n_84))
                      refine ⟨by rw [hm, hKe]; rw [if_pos (by omega)], f1, g1, by rw [hm, hKe]; exact hC2, ?_⟩
                      rw [hm, hKe]
                      refine ⟨fun r x hr hx => ?_, fun r x hr hx => ?_⟩
                      · show f1 (r + 1) x = nu (sK S r) (va_up (sC S) (rowT S b) (fun j => if qq ≤ j ∧ j < qq + k then sC S (rowT S a) (pp + (j - qq)) else sC S (rowT S b) j) r x) ∧ g1 (r + 1) x = th A (sK S r) (va_up (sC S) (rowT S b) (fun j => if qq ≤ j ∧ j < qq + k then sC S (rowT S a) (pp + (j - qq)) else sC S (rowT S b) j) r x)
                        have hx : x < sZ S r := hx
                        by_cases e : r = rowT S b
                        · subst e
                          rw [(hd x).1, (hd x).2]
                          by_cases h9 : qq ≤ x ∧ x < qq + k
                          · have e9 : va_up (sC S) (rowT S b) (fun j => if qq ≤ j ∧ j < qq + k then sC S (rowT S a) (pp + (j - qq)) else sC S (rowT S b) j) (rowT S b) x = sC S (rowT S a) (pp + (x - qq)) := by simp [va_up, h9]
                            rw [if_pos h9, if_pos h9, e9, ← (hnt _).1, ← (hnt _).2]
                            exact hfS (pp + (x - qq)) (by omega)
                          · have e9 : va_up (sC S) (rowT S b) (fun j => if qq ≤ j ∧ j < qq + k then sC S (rowT S a) (pp + (j - qq)) else sC S (rowT S b) j) (rowT S b) x = sC S (rowT S b) x := by simp [va_up, h9]
                            rw [if_neg h9, if_neg h9, e9]
                            exact hR.1 _ x hrb1 hx
                        · have e9 : va_up (sC S) (rowT S b) (fun j => if qq ≤ j ∧ j < qq + k then sC S (rowT S a) (pp + (j - qq)) else sC S (rowT S b) j) r = sC S r := by simp [va_up, e]
                          rw [e9, (hf _ (fun h => e (Nat.succ.inj h))).1, (hf _ (fun h => e (Nat.succ.inj h))).2]
                          exact hR.1 r x hr hx
                      · rw [(hf 0 (Ne.symm (Nat.succ_ne_zero _))).1, (hf 0 (Ne.symm (Nat.succ_ne_zero _))).2]
                        exact hR.2 r x hr hx)
                · skip
                  have n_84 : (acc (sH S b) (srt S (sK S (rowT S a)) (sC S (rowT S a) (pp + k)))) = true := bI_t c_84
                  refine lv_aload_n hx hb dX3_carry_87 rfl (lv_at hl 3 rfl) ?_
                  refine lv_iload hx hb dX3_carry_88 (lv_at hl 4 rfl) ?_
                  refine m_topi (y := nI qq) hq9 ?_
                  refine lv_aload_n hx hb dX3_carry_90 rfl (lv_at hl 0 rfl) ?_
                  refine m_get C w hC2.1.1 (index := 32) (T := TX3) (N := 7) rfl hi_X3 5 (by decide) (by decide +kernel) rfl dX3_carry_91 ?_
                  refine lv_iadd hx hb dX3_carry_94 ?_
                  refine m_topi (y := nI (qq + k)) (by first | exact nI_add _ _ | exact nI_1 _) ?_
                  refine lv_aload hx hb dX3_carry_95 (lv_at hl 6 rfl) ?_
                  refine lv_iload_n hx hb dX3_carry_97 rfl (lv_at hl 2 rfl) ?_
                  refine m_topi (y := nI pp) hp ?_
                  refine lv_aload_n hx hb dX3_carry_98 rfl (lv_at hl 0 rfl) ?_
                  refine m_get C w hC2.1.1 (index := 32) (T := TX3) (N := 7) rfl hi_X3 5 (by decide) (by decide +kernel) rfl dX3_carry_99 ?_
                  refine lv_iadd hx hb dX3_carry_102 ?_
                  refine m_topi (y := nI (pp + k)) (by first | exact nI_add _ _ | exact nI_1 _) ?_
                  have hgs : gs S (sH S b) (sC S (rowT S a) (pp + k)) = true := by rw [← hag _ (by omega)]; exact n_84
                  refine m_callV C w hl.1 (As := [.int (nI (qq + k)), .ref (tr a), .int (nI (pp + k))]) (rest := []) (c_Hold_copy l D y S0 M2 F (tr b) (sH S b) (zT S b) 0 (xn A (rowT S b + 1)) (xt A (rowT S b + 1)) hqb2 (tr a) (sH S a) (zT S a) 0 (xn A (rowT S a + 1)) (xt A (rowT S a + 1)) hsrc (f1 (rowT S b + 1)) (f1 (rowT S a + 1)) (g1 (rowT S b + 1)) (g1 (rowT S a + 1)) hnB htB hnS htS (qq + k) (pp + k) (by omega) (by omega) (by omega) (by omega) (fun z hz => hC2.1.th (hC2.2.1.2.2 (rowT S a + 1) (pp + k) z hra1 (by rw [zz_s]; show _ < sZ S (rowT S a); omega) hz))) gX3_carry_X0_copyPlace rfl hqb2 (T := TX0) (N := 5) rfl (show (_ = _ ∧ _ ≠ _ ∧ _ ≠ _ ∧ _ = some 3) by decide +kernel) ⟨Nat.le_of_ble_eq_true rfl, Nat.le_of_ble_eq_true rfl⟩ rfl (Nat.le_of_ble_eq_true rfl) dX3_carry_103 ⟨Nat.le_of_ble_eq_true rfl, Nat.le_of_ble_eq_true rfl⟩ (fun v M1 H locs hq w => ?_)
                  obtain ⟨rfl, hM1⟩ := hq
                  have hC3 := hC2.copy (a := rowT S b + 1) (b := (rowT S a + 1)) (i := qq + k) (j := pp + k) hrb1 hra1 (by rw [zz_s]; show _ < sZ S (rowT S b); omega) (by rw [zz_s]; show _ < sZ S (rowT S a); omega)
                  rw [show zz (wFl S k) (rowT S b + 1) = zT S b from (zz_s _ _).trans hzB.symm, ← hM1] at hC3
                  refine W.eq (g2 := F0 m 106 ls []) rfl ?_
                  refine lv_aload_n hx hb dX3_carry_106 rfl (lv_at hl 0 rfl) ?_
                  refine lv_dup hx hb dX3_carry_107 rfl ?_
                  refine m_get C w hC3.1.1 (index := 32) (T := TX3) (N := 7) rfl hi_X3 5 (by decide) (by decide +kernel) rfl dX3_carry_108 ?_
                  refine lv_iconst (v := 1) hx hb dX3_carry_111 (by decide) ?_
                  refine lv_iadd hx hb dX3_carry_112 ?_
                  refine m_topi (y := nI (k + 1)) (by first | exact nI_add _ _ | exact nI_1 _) ?_
                  refine m_put C w hC3.1.1 (v := .int (nI (k + 1))) (index := 32) (T := TX3) (N := 7) rfl hi_X3 tyX3 tyX3_ok nmX3 5 (by decide) (by decide +kernel) rfl (tyX3_ok 5 (by decide)) rfl rfl (Nat.le_of_ble_eq_true rfl) dX3_carry_113 (fun H locs w => ?_)
                  obtain ⟨M4, e_M4⟩ : ∃ z, z = mu M1 h0 (eO 2 (bF A (wFl S (k + 1)))) := ⟨_, rfl⟩
                  have w : mS D S0 M4 F s H locs := by rw [e_M4]; exact w
                  have hC4 := hC3.ben (wFl S (k + 1)) ⟨rfl, rfl, rfl, rfl, rfl, rfl, rfl, rfl, rfl⟩
                  rw [← e_M4] at hC4
                  refine lv_goto (tgt := 59) hx hb dX3_carry_116 (by decide) ?_
                  exact ih_lp (nn - (k + 1)) (by omega) (k + 1) _ _ M4 (by omega) hC4 (fun x hx => by
                      by_cases e : x = k
                      · rw [e]; exact hgs
                      · exact hK x (by omega)) (fun j hj => ⟨(up2_r hj).trans (hf j hj).1, (up2_r hj).trans (hf j hj).2⟩) (fun x => by
                      by_cases e : x = qq + k
                      · rw [e, up2_s, up2_s, if_pos ⟨by omega, by omega⟩, if_pos ⟨by omega, by omega⟩, (hf _ hsl).1, (hf _ hsl).2, show qq + k - qq = k by omega]; exact ⟨rfl, rfl⟩
                      · rw [up2_o (Or.inr e), up2_o (Or.inr e), (hd x).1, (hd x).2]
                        have hiff : (qq ≤ x ∧ x < qq + k) ↔ (qq ≤ x ∧ x < qq + (k + 1)) := by omega
                        simp only [hiff, and_self]) _ _ ls rfl w (lv_sub hl [0, 1, 2, 3, 4, 5, 6] rfl)
          exact lp _ 0 f g M1 (by omega) hC1 (fun x hx => by omega) (fun _ _ => ⟨rfl, rfl⟩) (fun x => by rw [if_neg (by omega), if_neg (by omega)]; exact ⟨rfl, rfl⟩) _ _ ls rfl w (lv_sub hl [2, 3, 4, 5, 6, 7, 0] rfl)
        · skip
          have hrr : rowT S a = rowT S b := hC.2.2.2.2.2.1 _ _ hra1 hrb1 (by rw [← eta, ← etb]; exact Option.some.inj c_46)
          have hsl : 0 ≠ rowT S b + 1 := Ne.symm (Nat.succ_ne_zero _)
          have hfS : ∀ x, x < zT S a → f 0 x = nu (sK S (rowT S a)) (sC S (rowT S a) x) ∧ g 0 x = th A (sK S (rowT S a)) (sC S (rowT S a) x) := fun x hx => by
            have := hR.2 (rowT S b) x (hkp h2b).1 (by rw [← hrr]; omega)
            rw [(hkp h2b).2, ← hrr] at this
            exact this
          refine lv_aload_n hx hb dX3_carry_49 rfl (lv_at hl 1 rfl) ?_
          refine m_get C w hC1.1.1 (index := 22) (T := TX3) (N := 7) rfl hi_X3 2 (by decide) (by decide +kernel) rfl dX3_carry_50 ?_
          refine lv_goto (tgt := 57) hx hb dX3_carry_53 (by decide) ?_
          refine lv_astore (lv' := [(7, .ref (xB A)), (6, .int (unlK (sH S a) (sH S b))), (0, .ref h0), (1, .ref (tr a)), (2, .int p1), (3, .ref (tr b)), (4, .int q1), (5, .int n1)]) hx hb dX3_carry_57 hl (by decide) rfl (fun ls hl => ?_)
          have lp : ∀ (kf : Nat) (k : Nat) (f1 : Nat → Nat → Int64) (g1 : Nat → Nat → Option Nat) (M2 : mp), (k ≤ nn) → (CW y h0 A tr f1 g1 (wFl S k) M2) → (∀ x, x < k → gs S (sH S b) (sC S (rowT S a) (pp + x)) = true) → (∀ j, j ≠ rowT S b + 1 → f1 j = f j ∧ g1 j = g j) → (∀ x, f1 (rowT S b + 1) x = (if qq ≤ x ∧ x < qq + k then f 0 (pp + (x - qq)) else f (rowT S b + 1) x) ∧ g1 (rowT S b + 1) x = (if qq ≤ x ∧ x < qq + k then g 0 (pp + (x - qq)) else g (rowT S b + 1) x)) →  ∀ (H : Heap) (locs : List Loc) (ls : Array Slot), nn - k = kf → mS D S0 M2 F s H locs → lv_has ls 8 [(0, .ref h0), (1, .ref (tr a)), (2, .int p1), (3, .ref (tr b)), (4, .int q1), (5, .int n1), (7, .ref (xB A))] → W p l e { frames := 2, cells := 0, slots := 0, locals := 42 } s m ([.ref h0, .ref (tr a), .int p1, .ref (tr b), .int q1, .int n1] : List Value).toArray below meth c H locs 0 0 (MQ below (mQ D S0 F (fun v M' => v = some (.int (movd S a p1 b q1 n1).1) ∧ ∃ f' g', CW y h0 A tr f' g' (movd S a p1 b q1 n1).2 M' ∧ CR A f' g' (movd S a p1 b q1 n1).2)) ([.ref h0, .ref (tr a), .int p1, .ref (tr b), .int q1, .int n1] : List Value).toArray s 0 0 (fun q => S0 ≤ q)) (F0 m 59 ls []) := by
            clear w hl
            intro kf
            induction kf using Nat.strongRecOn with
            | _ kf ih_lp =>
              intro k f1 g1 M2 hk hC2 hK hf hd H locs ls hkf w hl
              have hqb2 : M2 (tr b) = some (eO 0 (hF (sH S b) (zT S b) 0 (xn A (rowT S b + 1)) (xt A (rowT S b + 1)))) := by rw [etb, hzB, ← ekb]; exact hC2.1.2.2.2.2.2.1 (rowT S b) hrb1
              have hsrc : M2 (xB A) = some (eO 0 (hF 0 64 0 (xn A 0) (xt A 0))) := hC2.1.2.2.2.1
              have hnS : M2 (xn A 0) = some (eL y 64 (f1 0)) := hC2.2.1.1 0 (Nat.zero_le _)
              have htS : M2 (xt A 0) = some (eT y 64 (g1 0)) := hC2.2.1.2.1 0 (Nat.zero_le _)
              have hnB : M2 (xn A (rowT S b + 1)) = some (eL y (zT S b) (f1 (rowT S b + 1))) := by rw [hzB]; exact hC2.2.1.1 _ hrb1
              have htB : M2 (xt A (rowT S b + 1)) = some (eT y (zT S b) (g1 (rowT S b + 1))) := by rw [hzB]; exact hC2.2.1.2.1 _ hrb1
              refine lv_aload_n hx hb dX3_carry_59 rfl (lv_at hl 0 rfl) ?_
              refine m_get C w hC2.1.1 (index := 32) (T := TX3) (N := 7) rfl hi_X3 5 (by decide) (by decide +kernel) rfl dX3_carry_60 ?_
              refine lv_iload hx hb dX3_carry_63 (lv_at hl 5 rfl) ?_
              refine m_topi (y := nI nn) hn ?_
              refine lv_icmp_ge (tgt := 119) hx hb dX3_carry_65 (by decide) (fun c_65 => ?_) (fun c_65 => ?_)
              · skip
                have n_65 : nn ≤ k := (nI_leI (by omega) (by omega)).mp c_65
                refine lv_aload_n hx hb dX3_carry_119 rfl (lv_at hl 0 rfl) ?_
                refine m_get C w hC2.1.1 (index := 32) (T := TX3) (N := 7) rfl hi_X3 5 (by decide) (by decide +kernel) rfl dX3_carry_120 ?_
                refine lv_iload hx hb dX3_carry_123 (lv_at hl 5 rfl) ?_
                refine m_topi (y := nI nn) hn ?_
                refine lv_icmp_ge (tgt := 133) hx hb dX3_carry_125 (by decide) (fun c_125 => ?_) (fun c_125 => ?_)
                · skip
                  have n_125 : nn ≤ k := (nI_leI (by omega) (by omega)).mp c_125
                  refine lv_iload hx hb dX3_carry_133 (lv_at hl 5 rfl) ?_
                  refine m_topi (y := nI nn) hn ?_
                  exact m_iret C w dX3_carry_135 (by omega) (by omega) (by
                    have hKe : mvK S a pp b nn = k := ld_eq (by omega) hK (by first | exact Or.inl (by omega) | exact Or.inr (by rw [← hag _ (by omega)]; exact n_84))
                    refine ⟨by rw [hm, hKe]; rw [if_neg (by omega)], f1, g1, by rw [hm, hKe]; exact hC2, ?_⟩
                    rw [hm, hKe]
                    refine ⟨fun r x hr hx => ?_, fun r x hr hx => ?_⟩
                    · show f1 (r + 1) x = nu (sK S r) (va_up (sC S) (rowT S b) (fun j => if qq ≤ j ∧ j < qq + k then sC S (rowT S a) (pp + (j - qq)) else sC S (rowT S b) j) r x) ∧ g1 (r + 1) x = th A (sK S r) (va_up (sC S) (rowT S b) (fun j => if qq ≤ j ∧ j < qq + k then sC S (rowT S a) (pp + (j - qq)) else sC S (rowT S b) j) r x)
                      have hx : x < sZ S r := hx
                      by_cases e : r = rowT S b
                      · subst e
                        rw [(hd x).1, (hd x).2]
                        by_cases h9 : qq ≤ x ∧ x < qq + k
                        · have e9 : va_up (sC S) (rowT S b) (fun j => if qq ≤ j ∧ j < qq + k then sC S (rowT S a) (pp + (j - qq)) else sC S (rowT S b) j) (rowT S b) x = sC S (rowT S a) (pp + (x - qq)) := by simp [va_up, h9]
                          rw [if_pos h9, if_pos h9, e9, ← (hnt _).1, ← (hnt _).2]
                          exact hfS (pp + (x - qq)) (by omega)
                        · have e9 : va_up (sC S) (rowT S b) (fun j => if qq ≤ j ∧ j < qq + k then sC S (rowT S a) (pp + (j - qq)) else sC S (rowT S b) j) (rowT S b) x = sC S (rowT S b) x := by simp [va_up, h9]
                          rw [if_neg h9, if_neg h9, e9]
                          exact hR.1 _ x hrb1 hx
                      · have e9 : va_up (sC S) (rowT S b) (fun j => if qq ≤ j ∧ j < qq + k then sC S (rowT S a) (pp + (j - qq)) else sC S (rowT S b) j) r = sC S r := by simp [va_up, e]
                        rw [e9, (hf _ (fun h => e (Nat.succ.inj h))).1, (hf _ (fun h => e (Nat.succ.inj h))).2]
                        exact hR.1 r x hr hx
                    · rw [(hf 0 (Ne.symm (Nat.succ_ne_zero _))).1, (hf 0 (Ne.symm (Nat.succ_ne_zero _))).2]
                      exact hR.2 r x hr hx)
                · skip
                  have n_125 : ¬ nn ≤ k := fun h => absurd ((nI_leI (by omega) (by omega)).mpr h) c_125
                  refine lv_bipush (v := (-5)) hx hb dX3_carry_128 (by decide) ?_
                  refine lv_goto (tgt := 135) hx hb dX3_carry_130 (by decide) ?_
                  exact m_iret C w dX3_carry_135 (by omega) (by omega) (by
                    have hKe : mvK S a pp b nn = k := ld_eq (by omega) hK (by first | exact Or.inl (by omega) | exact Or.inr (by rw [← hag _ (by omega)]; exact n_84))
                    refine ⟨by rw [hm, hKe]; rw [if_pos (by omega)], f1, g1, by rw [hm, hKe]; exact hC2, ?_⟩
                    rw [hm, hKe]
                    refine ⟨fun r x hr hx => ?_, fun r x hr hx => ?_⟩
                    · show f1 (r + 1) x = nu (sK S r) (va_up (sC S) (rowT S b) (fun j => if qq ≤ j ∧ j < qq + k then sC S (rowT S a) (pp + (j - qq)) else sC S (rowT S b) j) r x) ∧ g1 (r + 1) x = th A (sK S r) (va_up (sC S) (rowT S b) (fun j => if qq ≤ j ∧ j < qq + k then sC S (rowT S a) (pp + (j - qq)) else sC S (rowT S b) j) r x)
                      have hx : x < sZ S r := hx
                      by_cases e : r = rowT S b
                      · subst e
                        rw [(hd x).1, (hd x).2]
                        by_cases h9 : qq ≤ x ∧ x < qq + k
                        · have e9 : va_up (sC S) (rowT S b) (fun j => if qq ≤ j ∧ j < qq + k then sC S (rowT S a) (pp + (j - qq)) else sC S (rowT S b) j) (rowT S b) x = sC S (rowT S a) (pp + (x - qq)) := by simp [va_up, h9]
                          rw [if_pos h9, if_pos h9, e9, ← (hnt _).1, ← (hnt _).2]
                          exact hfS (pp + (x - qq)) (by omega)
                        · have e9 : va_up (sC S) (rowT S b) (fun j => if qq ≤ j ∧ j < qq + k then sC S (rowT S a) (pp + (j - qq)) else sC S (rowT S b) j) (rowT S b) x = sC S (rowT S b) x := by simp [va_up, h9]
                          rw [if_neg h9, if_neg h9, e9]
                          exact hR.1 _ x hrb1 hx
                      · have e9 : va_up (sC S) (rowT S b) (fun j => if qq ≤ j ∧ j < qq + k then sC S (rowT S a) (pp + (j - qq)) else sC S (rowT S b) j) r = sC S r := by simp [va_up, e]
                        rw [e9, (hf _ (fun h => e (Nat.succ.inj h))).1, (hf _ (fun h => e (Nat.succ.inj h))).2]
                        exact hR.1 r x hr hx
                    · rw [(hf 0 (Ne.symm (Nat.succ_ne_zero _))).1, (hf 0 (Ne.symm (Nat.succ_ne_zero _))).2]
                      exact hR.2 r x hr hx)
              · skip
                have n_65 : ¬ nn ≤ k := fun h => absurd ((nI_leI (by omega) (by omega)).mpr h) c_65
                refine lv_aload_n hx hb dX3_carry_68 rfl (lv_at hl 3 rfl) ?_
                refine lv_aload hx hb dX3_carry_69 (lv_at hl 6 rfl) ?_
                refine m_getN C w hsrc (index := 73) (host := "BeadBench") (T := TX0) (N := 5) rfl hi_X0 4 (by decide) (by decide +kernel) rfl dX3_carry_71 ?_
                refine lv_iload_n hx hb dX3_carry_74 rfl (lv_at hl 2 rfl) ?_
                refine m_topi (y := nI pp) hp ?_
                refine lv_aload_n hx hb dX3_carry_75 rfl (lv_at hl 0 rfl) ?_
                refine m_get C w hC2.1.1 (index := 32) (T := TX3) (N := 7) rfl hi_X3 5 (by decide) (by decide +kernel) rfl dX3_carry_76 ?_
                refine lv_iadd hx hb dX3_carry_79 ?_
                refine m_topi (y := nI (pp + k)) (by first | exact nI_add _ _ | exact nI_1 _) ?_
                refine m_tald C w htS (pp + k) rfl (by omega) (by omega) dX3_carry_80 ?_
                have hth : thS M2 (g1 0 (pp + k)) (srt S (sK S (rowT S a)) (sC S (rowT S a) (pp + k))) := by rw [(hf _ hsl).2, (hfS _ (by omega)).2]; exact th_srt (S := wFl S k) (hI.fl (by omega)) hC2.1 (hvl _ (by omega))
                refine m_callV C w hl.1 (As := [va_rf ((g1 0) (pp + k))]) (rest := []) (c_Hold_accepts l D y S0 M2 F (tr b) (sH S b) (zT S b) 0 (xn A (rowT S b + 1)) (xt A (rowT S b + 1)) hqb2 hkb hzb (g1 0 (pp + k)) _ hth) gX3_carry_X0_accepts rfl hqb2 (T := TX0) (N := 5) rfl (show (_ = _ ∧ _ ≠ _ ∧ _ ≠ _ ∧ _ = some 1) by decide +kernel) ⟨Nat.le_of_ble_eq_true rfl, Nat.le_of_ble_eq_true rfl⟩ rfl (Nat.le_of_ble_eq_true rfl) dX3_carry_81 ⟨Nat.le_of_ble_eq_true rfl, Nat.le_of_ble_eq_true rfl⟩ (fun v M1 H locs hq w => ?_)
                obtain ⟨rfl, hM1⟩ := hq
                rw [hM1] at w
                clear hM1 M1
                refine W.eq (g2 := F0 m 84 ls [.int (bI (acc (sH S b) (srt S (sK S (rowT S a)) (sC S (rowT S a) (pp + k)))))]) rfl ?_
                refine lv_if_eq (tgt := 119) hx hb dX3_carry_84 (by decide) (fun c_84 => ?_) (fun c_84 => ?_)
                · skip
                  have n_84 : (acc (sH S b) (srt S (sK S (rowT S a)) (sC S (rowT S a) (pp + k)))) = false := bI_f c_84
                  refine lv_aload_n hx hb dX3_carry_119 rfl (lv_at hl 0 rfl) ?_
                  refine m_get C w hC2.1.1 (index := 32) (T := TX3) (N := 7) rfl hi_X3 5 (by decide) (by decide +kernel) rfl dX3_carry_120 ?_
                  refine lv_iload hx hb dX3_carry_123 (lv_at hl 5 rfl) ?_
                  refine m_topi (y := nI nn) hn ?_
                  refine lv_icmp_ge (tgt := 133) hx hb dX3_carry_125 (by decide) (fun c_125 => ?_) (fun c_125 => ?_)
                  · skip
                    have n_125 : nn ≤ k := (nI_leI (by omega) (by omega)).mp c_125
                    refine lv_iload hx hb dX3_carry_133 (lv_at hl 5 rfl) ?_
                    refine m_topi (y := nI nn) hn ?_
                    exact m_iret C w dX3_carry_135 (by omega) (by omega) (by
                      have hKe : mvK S a pp b nn = k := ld_eq (by omega) hK (by first | exact Or.inl (by omega) | exact Or.inr (by rw [← hag _ (by omega)]; exact n_84))
                      refine ⟨by rw [hm, hKe]; rw [if_neg (by omega)], f1, g1, by rw [hm, hKe]; exact hC2, ?_⟩
                      rw [hm, hKe]
                      refine ⟨fun r x hr hx => ?_, fun r x hr hx => ?_⟩
                      · show f1 (r + 1) x = nu (sK S r) (va_up (sC S) (rowT S b) (fun j => if qq ≤ j ∧ j < qq + k then sC S (rowT S a) (pp + (j - qq)) else sC S (rowT S b) j) r x) ∧ g1 (r + 1) x = th A (sK S r) (va_up (sC S) (rowT S b) (fun j => if qq ≤ j ∧ j < qq + k then sC S (rowT S a) (pp + (j - qq)) else sC S (rowT S b) j) r x)
                        have hx : x < sZ S r := hx
                        by_cases e : r = rowT S b
                        · subst e
                          rw [(hd x).1, (hd x).2]
                          by_cases h9 : qq ≤ x ∧ x < qq + k
                          · have e9 : va_up (sC S) (rowT S b) (fun j => if qq ≤ j ∧ j < qq + k then sC S (rowT S a) (pp + (j - qq)) else sC S (rowT S b) j) (rowT S b) x = sC S (rowT S a) (pp + (x - qq)) := by simp [va_up, h9]
                            rw [if_pos h9, if_pos h9, e9, ← (hnt _).1, ← (hnt _).2]
                            exact hfS (pp + (x - qq)) (by omega)
                          · have e9 : va_up (sC S) (rowT S b) (fun j => if qq ≤ j ∧ j < qq + k then sC S (rowT S a) (pp + (j - qq)) else sC S (rowT S b) j) (rowT S b) x = sC S (rowT S b) x := by simp [va_up, h9]
                            rw [if_neg h9, if_neg h9, e9]
                            exact hR.1 _ x hrb1 hx
                        · have e9 : va_up (sC S) (rowT S b) (fun j => if qq ≤ j ∧ j < qq + k then sC S (rowT S a) (pp + (j - qq)) else sC S (rowT S b) j) r = sC S r := by simp [va_up, e]
                          rw [e9, (hf _ (fun h => e (Nat.succ.inj h))).1, (hf _ (fun h => e (Nat.succ.inj h))).2]
                          exact hR.1 r x hr hx
                      · rw [(hf 0 (Ne.symm (Nat.succ_ne_zero _))).1, (hf 0 (Ne.symm (Nat.succ_ne_zero _))).2]
                        exact hR.2 r x hr hx)
                  · skip
                    have n_125 : ¬ nn ≤ k := fun h => absurd ((nI_leI (by omega) (by omega)).mpr h) c_125
                    refine lv_bipush (v := (-5)) hx hb dX3_carry_128 (by decide) ?_
                    refine lv_goto (tgt := 135) hx hb dX3_carry_130 (by decide) ?_
                    exact m_iret C w dX3_carry_135 (by omega) (by omega) (by
                      have hKe : mvK S a pp b nn = k := ld_eq (by omega) hK (by first | exact Or.inl (by omega) | exact Or.inr (by rw [← hag _ (by omega)]; exact n_84))
                      refine ⟨by rw [hm, hKe]; rw [if_pos (by omega)], f1, g1, by rw [hm, hKe]; exact hC2, ?_⟩
                      rw [hm, hKe]
                      refine ⟨fun r x hr hx => ?_, fun r x hr hx => ?_⟩
                      · show f1 (r + 1) x = nu (sK S r) (va_up (sC S) (rowT S b) (fun j => if qq ≤ j ∧ j < qq + k then sC S (rowT S a) (pp + (j - qq)) else sC S (rowT S b) j) r x) ∧ g1 (r + 1) x = th A (sK S r) (va_up (sC S) (rowT S b) (fun j => if qq ≤ j ∧ j < qq + k then sC S (rowT S a) (pp + (j - qq)) else sC S (rowT S b) j) r x)
                        have hx : x < sZ S r := hx
                        by_cases e : r = rowT S b
                        · subst e
                          rw [(hd x).1, (hd x).2]
                          by_cases h9 : qq ≤ x ∧ x < qq + k
                          · have e9 : va_up (sC S) (rowT S b) (fun j => if qq ≤ j ∧ j < qq + k then sC S (rowT S a) (pp + (j - qq)) else sC S (rowT S b) j) (rowT S b) x = sC S (rowT S a) (pp + (x - qq)) := by simp [va_up, h9]
                            rw [if_pos h9, if_pos h9, e9, ← (hnt _).1, ← (hnt _).2]
                            exact hfS (pp + (x - qq)) (by omega)
                          · have e9 : va_up (sC S) (rowT S b) (fun j => if qq ≤ j ∧ j < qq + k then sC S (rowT S a) (pp + (j - qq)) else sC S (rowT S b) j) (rowT S b) x = sC S (rowT S b) x := by simp [va_up, h9]
                            rw [if_neg h9, if_neg h9, e9]
                            exact hR.1 _ x hrb1 hx
                        · have e9 : va_up (sC S) (rowT S b) (fun j => if qq ≤ j ∧ j < qq + k then sC S (rowT S a) (pp + (j - qq)) else sC S (rowT S b) j) r = sC S r := by simp [va_up, e]
                          rw [e9, (hf _ (fun h => e (Nat.succ.inj h))).1, (hf _ (fun h => e (Nat.succ.inj h))).2]
                          exact hR.1 r x hr hx
                      · rw [(hf 0 (Ne.symm (Nat.succ_ne_zero _))).1, (hf 0 (Ne.symm (Nat.succ_ne_zero _))).2]
                        exact hR.2 r x hr hx)
                · skip
                  have n_84 : (acc (sH S b) (srt S (sK S (rowT S a)) (sC S (rowT S a) (pp + k)))) = true := bI_t c_84
                  refine lv_aload_n hx hb dX3_carry_87 rfl (lv_at hl 3 rfl) ?_
                  refine lv_iload hx hb dX3_carry_88 (lv_at hl 4 rfl) ?_
                  refine m_topi (y := nI qq) hq9 ?_
                  refine lv_aload_n hx hb dX3_carry_90 rfl (lv_at hl 0 rfl) ?_
                  refine m_get C w hC2.1.1 (index := 32) (T := TX3) (N := 7) rfl hi_X3 5 (by decide) (by decide +kernel) rfl dX3_carry_91 ?_
                  refine lv_iadd hx hb dX3_carry_94 ?_
                  refine m_topi (y := nI (qq + k)) (by first | exact nI_add _ _ | exact nI_1 _) ?_
                  refine lv_aload hx hb dX3_carry_95 (lv_at hl 6 rfl) ?_
                  refine lv_iload_n hx hb dX3_carry_97 rfl (lv_at hl 2 rfl) ?_
                  refine m_topi (y := nI pp) hp ?_
                  refine lv_aload_n hx hb dX3_carry_98 rfl (lv_at hl 0 rfl) ?_
                  refine m_get C w hC2.1.1 (index := 32) (T := TX3) (N := 7) rfl hi_X3 5 (by decide) (by decide +kernel) rfl dX3_carry_99 ?_
                  refine lv_iadd hx hb dX3_carry_102 ?_
                  refine m_topi (y := nI (pp + k)) (by first | exact nI_add _ _ | exact nI_1 _) ?_
                  have hgs : gs S (sH S b) (sC S (rowT S a) (pp + k)) = true := by rw [← hag _ (by omega)]; exact n_84
                  refine m_callV C w hl.1 (As := [.int (nI (qq + k)), .ref (xB A), .int (nI (pp + k))]) (rest := []) (c_Hold_copy l D y S0 M2 F (tr b) (sH S b) (zT S b) 0 (xn A (rowT S b + 1)) (xt A (rowT S b + 1)) hqb2 (xB A) 0 64 0 (xn A 0) (xt A 0) hsrc (f1 (rowT S b + 1)) (f1 0) (g1 (rowT S b + 1)) (g1 0) hnB htB hnS htS (qq + k) (pp + k) (by omega) (by omega) (by omega) (by omega) (fun z hz => hC2.1.th (hC2.2.1.2.2 0 (pp + k) z (Nat.zero_le _) (by rw [zz_0]; omega) hz))) gX3_carry_X0_copyPlace rfl hqb2 (T := TX0) (N := 5) rfl (show (_ = _ ∧ _ ≠ _ ∧ _ ≠ _ ∧ _ = some 3) by decide +kernel) ⟨Nat.le_of_ble_eq_true rfl, Nat.le_of_ble_eq_true rfl⟩ rfl (Nat.le_of_ble_eq_true rfl) dX3_carry_103 ⟨Nat.le_of_ble_eq_true rfl, Nat.le_of_ble_eq_true rfl⟩ (fun v M1 H locs hq w => ?_)
                  obtain ⟨rfl, hM1⟩ := hq
                  have hC3 := hC2.copy (a := rowT S b + 1) (b := 0) (i := qq + k) (j := pp + k) hrb1 (Nat.zero_le _) (by rw [zz_s]; show _ < sZ S (rowT S b); omega) (by rw [zz_0]; omega)
                  rw [show zz (wFl S k) (rowT S b + 1) = zT S b from (zz_s _ _).trans hzB.symm, ← hM1] at hC3
                  refine W.eq (g2 := F0 m 106 ls []) rfl ?_
                  refine lv_aload_n hx hb dX3_carry_106 rfl (lv_at hl 0 rfl) ?_
                  refine lv_dup hx hb dX3_carry_107 rfl ?_
                  refine m_get C w hC3.1.1 (index := 32) (T := TX3) (N := 7) rfl hi_X3 5 (by decide) (by decide +kernel) rfl dX3_carry_108 ?_
                  refine lv_iconst (v := 1) hx hb dX3_carry_111 (by decide) ?_
                  refine lv_iadd hx hb dX3_carry_112 ?_
                  refine m_topi (y := nI (k + 1)) (by first | exact nI_add _ _ | exact nI_1 _) ?_
                  refine m_put C w hC3.1.1 (v := .int (nI (k + 1))) (index := 32) (T := TX3) (N := 7) rfl hi_X3 tyX3 tyX3_ok nmX3 5 (by decide) (by decide +kernel) rfl (tyX3_ok 5 (by decide)) rfl rfl (Nat.le_of_ble_eq_true rfl) dX3_carry_113 (fun H locs w => ?_)
                  obtain ⟨M4, e_M4⟩ : ∃ z, z = mu M1 h0 (eO 2 (bF A (wFl S (k + 1)))) := ⟨_, rfl⟩
                  have w : mS D S0 M4 F s H locs := by rw [e_M4]; exact w
                  have hC4 := hC3.ben (wFl S (k + 1)) ⟨rfl, rfl, rfl, rfl, rfl, rfl, rfl, rfl, rfl⟩
                  rw [← e_M4] at hC4
                  refine lv_goto (tgt := 59) hx hb dX3_carry_116 (by decide) ?_
                  exact ih_lp (nn - (k + 1)) (by omega) (k + 1) _ _ M4 (by omega) hC4 (fun x hx => by
                      by_cases e : x = k
                      · rw [e]; exact hgs
                      · exact hK x (by omega)) (fun j hj => ⟨(up2_r hj).trans (hf j hj).1, (up2_r hj).trans (hf j hj).2⟩) (fun x => by
                      by_cases e : x = qq + k
                      · rw [e, up2_s, up2_s, if_pos ⟨by omega, by omega⟩, if_pos ⟨by omega, by omega⟩, (hf _ hsl).1, (hf _ hsl).2, show qq + k - qq = k by omega]; exact ⟨rfl, rfl⟩
                      · rw [up2_o (Or.inr e), up2_o (Or.inr e), (hd x).1, (hd x).2]
                        have hiff : (qq ≤ x ∧ x < qq + k) ↔ (qq ≤ x ∧ x < qq + (k + 1)) := by omega
                        simp only [hiff, and_self]) _ _ ls rfl w (lv_sub hl [0, 1, 2, 3, 4, 5, 6] rfl)
          exact lp _ 0 f g M1 (by omega) hC1 (fun x hx => by omega) (fun _ _ => ⟨rfl, rfl⟩) (fun x => by rw [if_neg (by omega), if_neg (by omega)]; exact ⟨rfl, rfl⟩) _ _ ls rfl w (lv_sub hl [2, 3, 4, 5, 6, 7, 0] rfl)
      · skip
        have n_38 : (hpl q1 n1 (zT S b)) = false := bI_f c_38
        refine lv_bipush (v := (-4)) hx hb dX3_carry_41 (by decide) ?_
        exact m_iret C w dX3_carry_43 (by omega) (by omega) (⟨by rw [(show movd S a p1 b q1 n1 = (-4, wFl S 0) by unfold movd; rw [if_neg (show ¬ ¬ unl S a b = 0 from fun h => h c_14), if_pos (by first | simp [n_27, n_38] | simp [n_27])])], f, g, by rw [(show movd S a p1 b q1 n1 = (-4, wFl S 0) by unfold movd; rw [if_neg (show ¬ ¬ unl S a b = 0 from fun h => h c_14), if_pos (by first | simp [n_27, n_38] | simp [n_27])])]; exact hC1, by rw [(show movd S a p1 b q1 n1 = (-4, wFl S 0) by unfold movd; rw [if_neg (show ¬ ¬ unl S a b = 0 from fun h => h c_14), if_pos (by first | simp [n_27, n_38] | simp [n_27])])]; exact hR⟩)
  · skip
    refine lv_iload hx hb dX3_carry_17 (lv_at hl 0 rfl) ?_
    exact m_iret C w dX3_carry_19 (by omega) (by omega) (⟨by rw [show movd S a p1 b q1 n1 = (unl S a b, wFl S 0) by unfold movd; rw [if_pos (show ¬ unl S a b = 0 from c_14)]]; rfl, f, g, by rw [show movd S a p1 b q1 n1 = (unl S a b, wFl S 0) by unfold movd; rw [if_pos (show ¬ unl S a b = 0 from c_14)]]; exact hC1, by rw [show movd S a p1 b q1 n1 = (unl S a b, wFl S 0) by unfold movd; rw [if_pos (show ¬ unl S a b = 0 from c_14)]]; exact hR⟩)
